def y_Mo_lays : MethodName := ⟨"SensorTreeModel", "lays", "(I)V"⟩
theorem hy_Mo_lays : y_Mo_lays.cls ≠ "java/lang/invoke/MethodHandle" ∧ y_Mo_lays.cls ≠ "java/lang/invoke/VarHandle" ∧ (parseMethodDescriptor y_Mo_lays.desc).map (fun d => d.parameters.length) = some 1 := by decide +kernel
theorem d_Mo_lays_0 : decode prog_13_method_4_code 0 = .ok (.bipush 24, 2) := by decide +kernel
theorem d_Mo_lays_2 : decode prog_13_method_4_code 2 = .ok (.istore_n 2, 1) := by decide +kernel
theorem d_Mo_lays_3 : decode prog_13_method_4_code 3 = .ok (.iload_n 2, 1) := by decide +kernel
theorem d_Mo_lays_4 : decode prog_13_method_4_code 4 = .ok (.ifCond .lt 32, 3) := by decide +kernel
theorem d_Mo_lays_7 : decode prog_13_method_4_code 7 = .ok (.aload_n 0, 1) := by decide +kernel
theorem d_Mo_lays_8 : decode prog_13_method_4_code 8 = .ok (.getfield 13, 3) := by decide +kernel
theorem d_Mo_lays_11 : decode prog_13_method_4_code 11 = .ok (.aload_n 0, 1) := by decide +kernel
theorem d_Mo_lays_12 : decode prog_13_method_4_code 12 = .ok (.getfield 106, 3) := by decide +kernel
theorem d_Mo_lays_15 : decode prog_13_method_4_code 15 = .ok (.iload_n 1, 1) := by decide +kernel
theorem d_Mo_lays_16 : decode prog_13_method_4_code 16 = .ok (.iload_n 2, 1) := by decide +kernel
theorem d_Mo_lays_17 : decode prog_13_method_4_code 17 = .ok (.ishr, 1) := by decide +kernel
theorem d_Mo_lays_18 : decode prog_13_method_4_code 18 = .ok (.i2b, 1) := by decide +kernel
theorem d_Mo_lays_19 : decode prog_13_method_4_code 19 = .ok (.bastore, 1) := by decide +kernel
theorem d_Mo_lays_20 : decode prog_13_method_4_code 20 = .ok (.aload_n 0, 1) := by decide +kernel
theorem d_Mo_lays_21 : decode prog_13_method_4_code 21 = .ok (.dup, 1) := by decide +kernel
theorem d_Mo_lays_22 : decode prog_13_method_4_code 22 = .ok (.getfield 106, 3) := by decide +kernel
theorem d_Mo_lays_25 : decode prog_13_method_4_code 25 = .ok (.iconst 1, 1) := by decide +kernel
theorem d_Mo_lays_26 : decode prog_13_method_4_code 26 = .ok (.iadd, 1) := by decide +kernel
theorem d_Mo_lays_27 : decode prog_13_method_4_code 27 = .ok (.putfield 106, 3) := by decide +kernel
theorem d_Mo_lays_30 : decode prog_13_method_4_code 30 = .ok (.iinc 2 (-8), 3) := by decide +kernel
theorem d_Mo_lays_33 : decode prog_13_method_4_code 33 = .ok (.goto (-30), 3) := by decide +kernel
theorem d_Mo_lays_36 : decode prog_13_method_4_code 36 = .ok (.return_, 1) := by decide +kernel
def wp_Mo_lays_b3   (Q : sx_M → sx_L → Prop) : Nat → Int32 → Int32 → sx_M → sx_L → Prop
  | 0, _, _, _, _ => False
  | f + 1, v1, v2, σ, τ => if v2 < 0 then (Q σ τ) else (vp_in (σ 50 0 0 2) 2000 ∧ (∀ σ3 : sx_M, σ3 = sx_u σ 51 0 0 (σ 50 0 0 2).toNatClampNeg (vp_nar .byte ((v1 >>> (v2 &&& 31)).toInt8.toInt32)) → (∀ σ4 : sx_M, σ4 = sx_u σ3 50 0 0 2 ((σ3 50 0 0 2) + 1) → (wp_Mo_lays_b3 Q f v1 (v2 + (-8)) σ4 τ))))
def wp_Mo_lays (x1 : Int32) (σ : sx_M) (τ : sx_L) (Q : sx_M → sx_L → Prop) : Prop := ∃ f3, wp_Mo_lays_b3 Q f3 x1 24 σ τ
abbrev rm_Mo_lays : Room := { frames := 0, cells := 0, slots := 0, locals := 0 }
set_option maxRecDepth 100000 in
set_option maxHeartbeats 4000000 in
theorem g_Mo_lays_b3 {l : Launch} {K : sx_K} {X : sx_T}   {Q : sx_M → sx_L → Prop} (hX : sx_C X K prog_13_method_4_code 3 "SensorTreeModel" none rm_Mo_lays l) (hK : kx_F K) (hE : sx_E X K (sx_Qv K Q))  : ∀ (f : Nat) (v1 : Int32) (v2 : Int32) (σ : sx_M) (τ : sx_L) , wp_Mo_lays_b3 Q f v1 v2 σ τ → sx_G X K 3 3 [(0, .ref (K.2.2.1 50 0 0)), (1, .int v1), (2, .int v2)] [] (sx_H K σ τ) := by
  intro f
  induction f with
  | zero => intro v1 v2 σ τ h; exact (show False from h).elim
  | succ f ih =>
    intro v1 v2 σ τ h
    rw [wp_Mo_lays_b3] at h
    refine sx_iload_n (pc2 := 4) hX 2 d_Mo_lays_3 rfl rfl rfl ?_
    refine sx_if_lt (tgt := 36) (pc2 := 7) hX d_Mo_lays_4 (by decide) rfl (fun hc1 => ?_) (fun hc1 => ?_)
    · replace h := sx_t h hc1
      exact sx_vret hX hE h d_Mo_lays_36
    · replace h := sx_f h hc1
      refine sx_aload_n (pc2 := 8) hX 0 d_Mo_lays_7 rfl rfl rfl ?_
      refine fg_Mo_13 (pc2 := 11) hX (kr_50 hK) d_Mo_lays_8 rfl ?_
      refine sx_aload_n (pc2 := 12) hX 0 d_Mo_lays_11 rfl rfl rfl ?_
      refine fg_Mo_106 (pc2 := 15) hX (kr_50 hK) d_Mo_lays_12 rfl ?_
      refine sx_iload_n (pc2 := 16) hX 1 d_Mo_lays_15 rfl rfl rfl ?_
      refine sx_iload_n (pc2 := 17) hX 2 d_Mo_lays_16 rfl rfl rfl ?_
      refine sx_ishr (pc2 := 18) hX d_Mo_lays_17 rfl ?_
      refine sx_i2b (pc2 := 19) hX d_Mo_lays_18 rfl ?_
      obtain ⟨hc2, h⟩ := h
      refine sx_bast (pc2 := 20) hX (kr_51 hK) (fun _ => rfl) hc2 d_Mo_lays_19 rfl ?_
      refine sx_nm (fun σ3 e3 => ?_)
      replace h := h σ3 e3
      refine sx_aload_n (pc2 := 21) hX 0 d_Mo_lays_20 rfl rfl rfl ?_
      refine sx_dup (pc2 := 22) hX d_Mo_lays_21 rfl rfl ?_
      refine fg_Mo_106 (pc2 := 25) hX (kr_50 hK) d_Mo_lays_22 rfl ?_
      refine sx_iconst (v := 1) (pc2 := 26) hX d_Mo_lays_25 (by decide) rfl ?_
      refine sx_iadd (pc2 := 27) hX d_Mo_lays_26 rfl ?_
      refine fp_Mo_106 (pc2 := 30) hX (kr_50 hK) d_Mo_lays_27 rfl ?_
      refine sx_nm (fun σ4 e4 => ?_)
      replace h := h σ4 e4
      refine sx_iinc (pc2 := 33) hX 2 _ [(0, .ref (K.2.2.1 50 0 0)), (1, .int v1), (2, .int (v2 + (-8)))] [1, 2, 0] d_Mo_lays_30 rfl (v2 + (-8)) rfl (by decide) rfl rfl rfl ?_
      refine sx_goto (tgt := 3) hX d_Mo_lays_33 (by decide) ?_
      exact ih v1 (v2 + (-8)) _ _ h
set_option maxRecDepth 100000 in
set_option maxHeartbeats 4000000 in
theorem c_Mo_lays {l : Launch} {K : sx_K} (hK : kx_F K) (x1 : Int32) (σ : sx_M) (τ : sx_L) (Q : sx_M → sx_L → Prop)  (h : wp_Mo_lays x1 σ τ Q) : Met l y_Mo_lays (sx_wd y_Mo_lays prog_13_method_4_code 3 none) rm_Mo_lays (sx_Pc K [.ref (K.2.2.1 50 0 0), .int x1] σ τ) (sx_Qv K Q) 0 0 (sx_A K) := by
  refine sx_met (by decide) (Nat.le_of_ble_eq_true rfl) (fun X hX hE => ?_)
  replace hX : sx_C X K prog_13_method_4_code 3 "SensorTreeModel" none rm_Mo_lays l := hX
  show sx_G X K 3 0 [(0, .ref (K.2.2.1 50 0 0)), (1, .int x1)] [] (sx_H K σ τ)
  unfold wp_Mo_lays at h
  refine sx_bipush (v := 24) (pc2 := 2) hX d_Mo_lays_0 (by decide) rfl ?_
  refine sx_istore_n (pc2 := 3) hX _ [(0, .ref (K.2.2.1 50 0 0)), (1, .int x1), (2, .int 24)] [1, 2, 0] d_Mo_lays_2 rfl (by decide) rfl rfl rfl ?_
  obtain ⟨f3, h⟩ := h
  exact g_Mo_lays_b3 hX hK hE   f3 x1 24 _ _ h
theorem cl_Mo_109 {X : sx_T} {K : sx_K} {cc : ByteArray} {nL : Nat} {ret : Option FieldType} {rm : Room} {l : Launch} {pc pc2 : Nat} {lv : List (Nat × Value)} {st : List Value} {σ : sx_M} {τ : sx_L} {x1 : Int32} {Q : sx_M → sx_L → Prop} (hX : sx_C X K cc nL "SensorTreeModel" ret rm l) (hK : kx_F K) (h : wp_Mo_lays x1 σ τ Q)  (hR : rm_Mo_lays.frames + 1 ≤ rm.frames ∧ 8 + (3 + 11) + rm_Mo_lays.locals ≤ rm.locals) (hst : (st.map fun v => v.category).sum ≤ 8) (hd : decode cc pc = .ok (.invokevirtual 109, 3)) (hpc : pc + 3 = pc2) (kk : ∀ (σ2 : sx_M) (τ2 : sx_L), Q σ2 τ2 → sx_G X K nL pc2 lv (st) (sx_H K σ2 τ2)) : sx_G X K nL pc lv (.int x1 :: .ref (K.2.2.1 50 0 0) :: st) (sx_H K σ τ) :=
  sx_callVv (Q := Q) (As := [.int x1]) hX (c_Mo_lays hK x1 σ τ Q  h) (kr_50 hK) rfl rfl lk_367 ls_45 hy_Mo_lays lk_365 lk_364 lk_366 ⟨rfl, rfl⟩ hR hst rfl hd hpc kk
def y_Mo_feed : MethodName := ⟨"SensorTreeModel", "feed", "(IIIII)I"⟩
theorem hy_Mo_feed : y_Mo_feed.cls ≠ "java/lang/invoke/MethodHandle" ∧ y_Mo_feed.cls ≠ "java/lang/invoke/VarHandle" ∧ (parseMethodDescriptor y_Mo_feed.desc).map (fun d => d.parameters.length) = some 5 := by decide +kernel
theorem d_Mo_feed_0 : decode prog_13_method_3_code 0 = .ok (.aload_n 0, 1) := by decide +kernel
theorem d_Mo_feed_1 : decode prog_13_method_3_code 1 = .ok (.getfield 106, 3) := by decide +kernel
theorem d_Mo_feed_4 : decode prog_13_method_3_code 4 = .ok (.bipush 20, 2) := by decide +kernel
theorem d_Mo_feed_6 : decode prog_13_method_3_code 6 = .ok (.iadd, 1) := by decide +kernel
theorem d_Mo_feed_7 : decode prog_13_method_3_code 7 = .ok (.sipush 2000, 3) := by decide +kernel
theorem d_Mo_feed_10 : decode prog_13_method_3_code 10 = .ok (.if_icmp .le 5, 3) := by decide +kernel
theorem d_Mo_feed_13 : decode prog_13_method_3_code 13 = .ok (.iconst (-1), 1) := by decide +kernel
theorem d_Mo_feed_14 : decode prog_13_method_3_code 14 = .ok (.ireturn, 1) := by decide +kernel
theorem d_Mo_feed_15 : decode prog_13_method_3_code 15 = .ok (.aload_n 0, 1) := by decide +kernel
theorem d_Mo_feed_16 : decode prog_13_method_3_code 16 = .ok (.iload_n 1, 1) := by decide +kernel
theorem d_Mo_feed_17 : decode prog_13_method_3_code 17 = .ok (.invokevirtual 109, 3) := by decide +kernel
theorem d_Mo_feed_20 : decode prog_13_method_3_code 20 = .ok (.aload_n 0, 1) := by decide +kernel
theorem d_Mo_feed_21 : decode prog_13_method_3_code 21 = .ok (.iload_n 2, 1) := by decide +kernel
theorem d_Mo_feed_22 : decode prog_13_method_3_code 22 = .ok (.invokevirtual 109, 3) := by decide +kernel
theorem d_Mo_feed_25 : decode prog_13_method_3_code 25 = .ok (.aload_n 0, 1) := by decide +kernel
theorem d_Mo_feed_26 : decode prog_13_method_3_code 26 = .ok (.iload_n 3, 1) := by decide +kernel
theorem d_Mo_feed_27 : decode prog_13_method_3_code 27 = .ok (.invokevirtual 109, 3) := by decide +kernel
theorem d_Mo_feed_30 : decode prog_13_method_3_code 30 = .ok (.aload_n 0, 1) := by decide +kernel
theorem d_Mo_feed_31 : decode prog_13_method_3_code 31 = .ok (.iload 4, 2) := by decide +kernel
theorem d_Mo_feed_33 : decode prog_13_method_3_code 33 = .ok (.invokevirtual 109, 3) := by decide +kernel
theorem d_Mo_feed_36 : decode prog_13_method_3_code 36 = .ok (.aload_n 0, 1) := by decide +kernel
theorem d_Mo_feed_37 : decode prog_13_method_3_code 37 = .ok (.iload 5, 2) := by decide +kernel
theorem d_Mo_feed_39 : decode prog_13_method_3_code 39 = .ok (.invokevirtual 109, 3) := by decide +kernel
theorem d_Mo_feed_42 : decode prog_13_method_3_code 42 = .ok (.aload_n 0, 1) := by decide +kernel
theorem d_Mo_feed_43 : decode prog_13_method_3_code 43 = .ok (.getfield 106, 3) := by decide +kernel
theorem d_Mo_feed_46 : decode prog_13_method_3_code 46 = .ok (.ireturn, 1) := by decide +kernel
def wp_Mo_feed (x1 : Int32) (x2 : Int32) (x3 : Int32) (x4 : Int32) (x5 : Int32) (σ : sx_M) (τ : sx_L) (Q : Int32 → sx_M → sx_L → Prop) : Prop := if (σ 50 0 0 2) + 20 ≤ 2000 then (wp_Mo_lays x1 σ τ (fun σ2 τ2 => wp_Mo_lays x2 σ2 τ2 (fun σ3 τ3 => wp_Mo_lays x3 σ3 τ3 (fun σ4 τ4 => wp_Mo_lays x4 σ4 τ4 (fun σ5 τ5 => wp_Mo_lays x5 σ5 τ5 (fun σ6 τ6 => Q (σ6 50 0 0 2) σ6 τ6)))))) else (Q (-1) σ τ)
abbrev rm_Mo_feed : Room := { frames := 1, cells := 0, slots := 0, locals := 22 }
set_option maxRecDepth 100000 in
set_option maxHeartbeats 4000000 in
theorem c_Mo_feed {l : Launch} {K : sx_K} (hK : kx_F K) (x1 : Int32) (x2 : Int32) (x3 : Int32) (x4 : Int32) (x5 : Int32) (σ : sx_M) (τ : sx_L) (Q : Int32 → sx_M → sx_L → Prop)  (h : wp_Mo_feed x1 x2 x3 x4 x5 σ τ Q) : Met l y_Mo_feed (sx_wd y_Mo_feed prog_13_method_3_code 6 (some .int)) rm_Mo_feed (sx_Pc K [.ref (K.2.2.1 50 0 0), .int x1, .int x2, .int x3, .int x4, .int x5] σ τ) (sx_Qi K Q) 0 0 (sx_A K) := by
  refine sx_met (by decide) (Nat.le_of_ble_eq_true rfl) (fun X hX hE => ?_)
  replace hX : sx_C X K prog_13_method_3_code 6 "SensorTreeModel" (some .int) rm_Mo_feed l := hX
  show sx_G X K 6 0 [(0, .ref (K.2.2.1 50 0 0)), (1, .int x1), (2, .int x2), (3, .int x3), (4, .int x4), (5, .int x5)] [] (sx_H K σ τ)
  unfold wp_Mo_feed at h
  refine sx_aload_n (pc2 := 1) hX 0 d_Mo_feed_0 rfl rfl rfl ?_
  refine fg_Mo_106 (pc2 := 4) hX (kr_50 hK) d_Mo_feed_1 rfl ?_
  refine sx_bipush (v := 20) (pc2 := 6) hX d_Mo_feed_4 (by decide) rfl ?_
  refine sx_iadd (pc2 := 7) hX d_Mo_feed_6 rfl ?_
  refine sx_sipush (v := 2000) (pc2 := 10) hX d_Mo_feed_7 (by decide) rfl ?_
  refine sx_icmp_le (tgt := 15) (pc2 := 13) hX d_Mo_feed_10 (by decide) rfl (fun hc1 => ?_) (fun hc1 => ?_)
  · replace h := sx_t h hc1
    refine sx_aload_n (pc2 := 16) hX 0 d_Mo_feed_15 rfl rfl rfl ?_
    refine sx_iload_n (pc2 := 17) hX 1 d_Mo_feed_16 rfl rfl rfl ?_
    refine cl_Mo_109 (pc2 := 20) hX hK h  ⟨Nat.le_of_ble_eq_true rfl, Nat.le_of_ble_eq_true rfl⟩ (Nat.le_of_ble_eq_true rfl) d_Mo_feed_17 rfl (fun σ2 τ2 h => ?_)
    refine sx_aload_n (pc2 := 21) hX 0 d_Mo_feed_20 rfl rfl rfl ?_
    refine sx_iload_n (pc2 := 22) hX 2 d_Mo_feed_21 rfl rfl rfl ?_
    refine cl_Mo_109 (pc2 := 25) hX hK h  ⟨Nat.le_of_ble_eq_true rfl, Nat.le_of_ble_eq_true rfl⟩ (Nat.le_of_ble_eq_true rfl) d_Mo_feed_22 rfl (fun σ3 τ3 h => ?_)
    refine sx_aload_n (pc2 := 26) hX 0 d_Mo_feed_25 rfl rfl rfl ?_
    refine sx_iload_n (pc2 := 27) hX 3 d_Mo_feed_26 rfl rfl rfl ?_
    refine cl_Mo_109 (pc2 := 30) hX hK h  ⟨Nat.le_of_ble_eq_true rfl, Nat.le_of_ble_eq_true rfl⟩ (Nat.le_of_ble_eq_true rfl) d_Mo_feed_27 rfl (fun σ4 τ4 h => ?_)
    refine sx_aload_n (pc2 := 31) hX 0 d_Mo_feed_30 rfl rfl rfl ?_
    refine sx_iload (pc2 := 33) hX 4 d_Mo_feed_31 rfl rfl ?_
    refine cl_Mo_109 (pc2 := 36) hX hK h  ⟨Nat.le_of_ble_eq_true rfl, Nat.le_of_ble_eq_true rfl⟩ (Nat.le_of_ble_eq_true rfl) d_Mo_feed_33 rfl (fun σ5 τ5 h => ?_)
    refine sx_aload_n (pc2 := 37) hX 0 d_Mo_feed_36 rfl rfl rfl ?_
    refine sx_iload (pc2 := 39) hX 5 d_Mo_feed_37 rfl rfl ?_
    refine cl_Mo_109 (pc2 := 42) hX hK h  ⟨Nat.le_of_ble_eq_true rfl, Nat.le_of_ble_eq_true rfl⟩ (Nat.le_of_ble_eq_true rfl) d_Mo_feed_39 rfl (fun σ6 τ6 h => ?_)
    refine sx_aload_n (pc2 := 43) hX 0 d_Mo_feed_42 rfl rfl rfl ?_
    refine fg_Mo_106 (pc2 := 46) hX (kr_50 hK) d_Mo_feed_43 rfl ?_
    exact sx_iret hX hE h d_Mo_feed_46
  · replace h := sx_f h hc1
    refine sx_iconst (v := (-1)) (pc2 := 14) hX d_Mo_feed_13 (by decide) rfl ?_
    exact sx_iret hX hE h d_Mo_feed_14
def y_Mo_back : MethodName := ⟨"SensorTreeModel", "back", "(I)I"⟩
theorem hy_Mo_back : y_Mo_back.cls ≠ "java/lang/invoke/MethodHandle" ∧ y_Mo_back.cls ≠ "java/lang/invoke/VarHandle" ∧ (parseMethodDescriptor y_Mo_back.desc).map (fun d => d.parameters.length) = some 1 := by decide +kernel
theorem d_Mo_back_0 : decode prog_13_method_5_code 0 = .ok (.iload_n 1, 1) := by decide +kernel
theorem d_Mo_back_1 : decode prog_13_method_5_code 1 = .ok (.ifCond .lt 11, 3) := by decide +kernel
theorem d_Mo_back_4 : decode prog_13_method_5_code 4 = .ok (.iload_n 1, 1) := by decide +kernel
theorem d_Mo_back_5 : decode prog_13_method_5_code 5 = .ok (.aload_n 0, 1) := by decide +kernel
theorem d_Mo_back_6 : decode prog_13_method_5_code 6 = .ok (.getfield 106, 3) := by decide +kernel
theorem d_Mo_back_9 : decode prog_13_method_5_code 9 = .ok (.if_icmp .le 5, 3) := by decide +kernel
theorem d_Mo_back_12 : decode prog_13_method_5_code 12 = .ok (.iconst (-1), 1) := by decide +kernel
theorem d_Mo_back_13 : decode prog_13_method_5_code 13 = .ok (.ireturn, 1) := by decide +kernel
theorem d_Mo_back_14 : decode prog_13_method_5_code 14 = .ok (.aload_n 0, 1) := by decide +kernel
theorem d_Mo_back_15 : decode prog_13_method_5_code 15 = .ok (.dup, 1) := by decide +kernel
theorem d_Mo_back_16 : decode prog_13_method_5_code 16 = .ok (.getfield 106, 3) := by decide +kernel
theorem d_Mo_back_19 : decode prog_13_method_5_code 19 = .ok (.iload_n 1, 1) := by decide +kernel
theorem d_Mo_back_20 : decode prog_13_method_5_code 20 = .ok (.isub, 1) := by decide +kernel
theorem d_Mo_back_21 : decode prog_13_method_5_code 21 = .ok (.putfield 106, 3) := by decide +kernel
theorem d_Mo_back_24 : decode prog_13_method_5_code 24 = .ok (.aload_n 0, 1) := by decide +kernel
theorem d_Mo_back_25 : decode prog_13_method_5_code 25 = .ok (.getfield 106, 3) := by decide +kernel
theorem d_Mo_back_28 : decode prog_13_method_5_code 28 = .ok (.ireturn, 1) := by decide +kernel
def wp_Mo_back_b12   (Q : Int32 → sx_M → sx_L → Prop)  (σ : sx_M) (τ : sx_L) : Prop := Q (-1) σ τ
def wp_Mo_back (x1 : Int32) (σ : sx_M) (τ : sx_L) (Q : Int32 → sx_M → sx_L → Prop) : Prop := if x1 < 0 then (wp_Mo_back_b12 Q σ τ) else (if x1 ≤ σ 50 0 0 2 then (∀ σ3 : sx_M, σ3 = sx_u σ 50 0 0 2 ((σ 50 0 0 2) - x1) → (Q (σ3 50 0 0 2) σ3 τ)) else (wp_Mo_back_b12 Q σ τ))
abbrev rm_Mo_back : Room := { frames := 0, cells := 0, slots := 0, locals := 0 }
set_option maxRecDepth 100000 in
set_option maxHeartbeats 4000000 in
theorem g_Mo_back_b12 {l : Launch} {K : sx_K} {X : sx_T}   {Q : Int32 → sx_M → sx_L → Prop} (hX : sx_C X K prog_13_method_5_code 2 "SensorTreeModel" (some .int) rm_Mo_back l) (hK : kx_F K) (hE : sx_E X K (sx_Qi K Q))   (σ : sx_M) (τ : sx_L)  (h : wp_Mo_back_b12 Q  σ τ) : sx_G X K 2 12 [] [] (sx_H K σ τ) := by
  unfold wp_Mo_back_b12 at h
  refine sx_iconst (v := (-1)) (pc2 := 13) hX d_Mo_back_12 (by decide) rfl ?_
  exact sx_iret hX hE h d_Mo_back_13
set_option maxRecDepth 100000 in
set_option maxHeartbeats 4000000 in
theorem c_Mo_back {l : Launch} {K : sx_K} (hK : kx_F K) (x1 : Int32) (σ : sx_M) (τ : sx_L) (Q : Int32 → sx_M → sx_L → Prop)  (h : wp_Mo_back x1 σ τ Q) : Met l y_Mo_back (sx_wd y_Mo_back prog_13_method_5_code 2 (some .int)) rm_Mo_back (sx_Pc K [.ref (K.2.2.1 50 0 0), .int x1] σ τ) (sx_Qi K Q) 0 0 (sx_A K) := by
  refine sx_met (by decide) (Nat.le_of_ble_eq_true rfl) (fun X hX hE => ?_)
  replace hX : sx_C X K prog_13_method_5_code 2 "SensorTreeModel" (some .int) rm_Mo_back l := hX
  show sx_G X K 2 0 [(0, .ref (K.2.2.1 50 0 0)), (1, .int x1)] [] (sx_H K σ τ)
  unfold wp_Mo_back at h
  refine sx_iload_n (pc2 := 1) hX 1 d_Mo_back_0 rfl rfl rfl ?_
  refine sx_if_lt (tgt := 12) (pc2 := 4) hX d_Mo_back_1 (by decide) rfl (fun hc1 => ?_) (fun hc1 => ?_)
  · replace h := sx_t h hc1
    refine sx_sub [] [] rfl ?_
    exact g_Mo_back_b12 hX hK hE   _ _ h
  · replace h := sx_f h hc1
    refine sx_iload_n (pc2 := 5) hX 1 d_Mo_back_4 rfl rfl rfl ?_
    refine sx_aload_n (pc2 := 6) hX 0 d_Mo_back_5 rfl rfl rfl ?_
    refine fg_Mo_106 (pc2 := 9) hX (kr_50 hK) d_Mo_back_6 rfl ?_
    refine sx_icmp_le (tgt := 14) (pc2 := 12) hX d_Mo_back_9 (by decide) rfl (fun hc2 => ?_) (fun hc2 => ?_)
    · replace h := sx_t h hc2
      refine sx_aload_n (pc2 := 15) hX 0 d_Mo_back_14 rfl rfl rfl ?_
      refine sx_dup (pc2 := 16) hX d_Mo_back_15 rfl rfl ?_
      refine fg_Mo_106 (pc2 := 19) hX (kr_50 hK) d_Mo_back_16 rfl ?_
      refine sx_iload_n (pc2 := 20) hX 1 d_Mo_back_19 rfl rfl rfl ?_
      refine sx_isub (pc2 := 21) hX d_Mo_back_20 rfl ?_
      refine fp_Mo_106 (pc2 := 24) hX (kr_50 hK) d_Mo_back_21 rfl ?_
      refine sx_nm (fun σ3 e3 => ?_)
      replace h := h σ3 e3
      refine sx_aload_n (pc2 := 25) hX 0 d_Mo_back_24 rfl rfl rfl ?_
      refine fg_Mo_106 (pc2 := 28) hX (kr_50 hK) d_Mo_back_25 rfl ?_
      exact sx_iret hX hE h d_Mo_back_28
    · replace h := sx_f h hc2
      refine sx_sub [] [] rfl ?_
      exact g_Mo_back_b12 hX hK hE   _ _ h
def y_Mo_byteAt : MethodName := ⟨"SensorTreeModel", "byteAt", "(I)I"⟩
theorem hy_Mo_byteAt : y_Mo_byteAt.cls ≠ "java/lang/invoke/MethodHandle" ∧ y_Mo_byteAt.cls ≠ "java/lang/invoke/VarHandle" ∧ (parseMethodDescriptor y_Mo_byteAt.desc).map (fun d => d.parameters.length) = some 1 := by decide +kernel
theorem d_Mo_byteAt_0 : decode prog_13_method_6_code 0 = .ok (.iload_n 1, 1) := by decide +kernel
theorem d_Mo_byteAt_1 : decode prog_13_method_6_code 1 = .ok (.aload_n 0, 1) := by decide +kernel
theorem d_Mo_byteAt_2 : decode prog_13_method_6_code 2 = .ok (.getfield 112, 3) := by decide +kernel
theorem d_Mo_byteAt_5 : decode prog_13_method_6_code 5 = .ok (.if_icmp .ge 16, 3) := by decide +kernel
theorem d_Mo_byteAt_8 : decode prog_13_method_6_code 8 = .ok (.aload_n 0, 1) := by decide +kernel
theorem d_Mo_byteAt_9 : decode prog_13_method_6_code 9 = .ok (.getfield 17, 3) := by decide +kernel
theorem d_Mo_byteAt_12 : decode prog_13_method_6_code 12 = .ok (.iload_n 1, 1) := by decide +kernel
theorem d_Mo_byteAt_13 : decode prog_13_method_6_code 13 = .ok (.baload, 1) := by decide +kernel
theorem d_Mo_byteAt_14 : decode prog_13_method_6_code 14 = .ok (.sipush 255, 3) := by decide +kernel
theorem d_Mo_byteAt_17 : decode prog_13_method_6_code 17 = .ok (.iand, 1) := by decide +kernel
theorem d_Mo_byteAt_18 : decode prog_13_method_6_code 18 = .ok (.goto 4, 3) := by decide +kernel
theorem d_Mo_byteAt_21 : decode prog_13_method_6_code 21 = .ok (.iconst 0, 1) := by decide +kernel
theorem d_Mo_byteAt_22 : decode prog_13_method_6_code 22 = .ok (.ireturn, 1) := by decide +kernel
def wp_Mo_byteAt_b22   (Q : Int32 → sx_M → sx_L → Prop) (w0 : Int32) (σ : sx_M) (τ : sx_L) : Prop := Q w0 σ τ
def wp_Mo_byteAt (x1 : Int32) (σ : sx_M) (τ : sx_L) (Q : Int32 → sx_M → sx_L → Prop) : Prop := if σ 50 0 0 4 ≤ x1 then (wp_Mo_byteAt_b22 Q 0 σ τ) else (vp_in x1 2000 ∧ (wp_Mo_byteAt_b22 Q ((σ 52 0 0 x1.toNatClampNeg) &&& 255) σ τ))
abbrev rm_Mo_byteAt : Room := { frames := 0, cells := 0, slots := 0, locals := 0 }
set_option maxRecDepth 100000 in
set_option maxHeartbeats 4000000 in
theorem g_Mo_byteAt_b22 {l : Launch} {K : sx_K} {X : sx_T}   {Q : Int32 → sx_M → sx_L → Prop} (hX : sx_C X K prog_13_method_6_code 2 "SensorTreeModel" (some .int) rm_Mo_byteAt l) (hK : kx_F K) (hE : sx_E X K (sx_Qi K Q))  (w0 : Int32) (σ : sx_M) (τ : sx_L)  (h : wp_Mo_byteAt_b22 Q  w0 σ τ) : sx_G X K 2 22 [] [.int w0] (sx_H K σ τ) := by
  unfold wp_Mo_byteAt_b22 at h
  exact sx_iret hX hE h d_Mo_byteAt_22
set_option maxRecDepth 100000 in
set_option maxHeartbeats 4000000 in
theorem c_Mo_byteAt {l : Launch} {K : sx_K} (hK : kx_F K) (x1 : Int32) (σ : sx_M) (τ : sx_L) (Q : Int32 → sx_M → sx_L → Prop)  (h : wp_Mo_byteAt x1 σ τ Q) : Met l y_Mo_byteAt (sx_wd y_Mo_byteAt prog_13_method_6_code 2 (some .int)) rm_Mo_byteAt (sx_Pc K [.ref (K.2.2.1 50 0 0), .int x1] σ τ) (sx_Qi K Q) 0 0 (sx_A K) := by
  refine sx_met (by decide) (Nat.le_of_ble_eq_true rfl) (fun X hX hE => ?_)
  replace hX : sx_C X K prog_13_method_6_code 2 "SensorTreeModel" (some .int) rm_Mo_byteAt l := hX
  show sx_G X K 2 0 [(0, .ref (K.2.2.1 50 0 0)), (1, .int x1)] [] (sx_H K σ τ)
  unfold wp_Mo_byteAt at h
  refine sx_iload_n (pc2 := 1) hX 1 d_Mo_byteAt_0 rfl rfl rfl ?_
  refine sx_aload_n (pc2 := 2) hX 0 d_Mo_byteAt_1 rfl rfl rfl ?_
  refine fg_Mo_112 (pc2 := 5) hX (kr_50 hK) d_Mo_byteAt_2 rfl ?_
  refine sx_icmp_ge (tgt := 21) (pc2 := 8) hX d_Mo_byteAt_5 (by decide) rfl (fun hc1 => ?_) (fun hc1 => ?_)
  · replace h := sx_t h hc1
    refine sx_iconst (v := 0) (pc2 := 22) hX d_Mo_byteAt_21 (by decide) rfl ?_
    refine sx_sub [] [] rfl ?_
    exact g_Mo_byteAt_b22 hX hK hE   0 _ _ h
  · replace h := sx_f h hc1
    refine sx_aload_n (pc2 := 9) hX 0 d_Mo_byteAt_8 rfl rfl rfl ?_
    refine fg_Mo_17 (pc2 := 12) hX (kr_50 hK) d_Mo_byteAt_9 rfl ?_
    refine sx_iload_n (pc2 := 13) hX 1 d_Mo_byteAt_12 rfl rfl rfl ?_
    obtain ⟨hc2, h⟩ := h
    refine sx_bald (pc2 := 14) hX (kr_52 hK) rfl hc2 d_Mo_byteAt_13 rfl ?_
    refine sx_sipush (v := 255) (pc2 := 17) hX d_Mo_byteAt_14 (by decide) rfl ?_
    refine sx_iand (pc2 := 18) hX d_Mo_byteAt_17 rfl ?_
    refine sx_goto (tgt := 22) hX d_Mo_byteAt_18 (by decide) ?_
    refine sx_sub [] [] rfl ?_
    exact g_Mo_byteAt_b22 hX hK hE   ((σ 52 0 0 x1.toNatClampNeg) &&& 255) _ _ h
theorem cl_Mo_124 {X : sx_T} {K : sx_K} {cc : ByteArray} {nL : Nat} {ret : Option FieldType} {rm : Room} {l : Launch} {pc pc2 : Nat} {lv : List (Nat × Value)} {st : List Value} {σ : sx_M} {τ : sx_L} {x1 : Int32} {Q : Int32 → sx_M → sx_L → Prop} (hX : sx_C X K cc nL "SensorTreeModel" ret rm l) (hK : kx_F K) (h : wp_Mo_byteAt x1 σ τ Q)  (hR : rm_Mo_byteAt.frames + 1 ≤ rm.frames ∧ 8 + (2 + 11) + rm_Mo_byteAt.locals ≤ rm.locals) (hst : (st.map fun v => v.category).sum ≤ 8) (hd : decode cc pc = .ok (.invokevirtual 124, 3)) (hpc : pc + 3 = pc2) (kk : ∀ (r : Int32) (σ2 : sx_M) (τ2 : sx_L), Q r σ2 τ2 → sx_G X K nL pc2 lv (.int r :: st) (sx_H K σ2 τ2)) : sx_G X K nL pc lv (.int x1 :: .ref (K.2.2.1 50 0 0) :: st) (sx_H K σ τ) :=
  sx_callVi (Q := Q) (As := [.int x1]) hX (c_Mo_byteAt hK x1 σ τ Q  h) (kr_50 hK) rfl rfl lk_376 ls_47 hy_Mo_byteAt lk_374 lk_364 lk_375 ⟨rfl, rfl⟩ hR hst rfl hd hpc kk
def y_Mo_isDigit : MethodName := ⟨"SensorTreeModel", "isDigit", "(I)Z"⟩
theorem hy_Mo_isDigit : y_Mo_isDigit.cls ≠ "java/lang/invoke/MethodHandle" ∧ y_Mo_isDigit.cls ≠ "java/lang/invoke/VarHandle" ∧ (parseMethodDescriptor y_Mo_isDigit.desc).map (fun d => d.parameters.length) = some 1 := by decide +kernel
theorem d_Mo_isDigit_0 : decode prog_13_method_7_code 0 = .ok (.iload_n 0, 1) := by decide +kernel
theorem d_Mo_isDigit_1 : decode prog_13_method_7_code 1 = .ok (.bipush 48, 2) := by decide +kernel
theorem d_Mo_isDigit_3 : decode prog_13_method_7_code 3 = .ok (.if_icmp .lt 13, 3) := by decide +kernel
theorem d_Mo_isDigit_6 : decode prog_13_method_7_code 6 = .ok (.iload_n 0, 1) := by decide +kernel
theorem d_Mo_isDigit_7 : decode prog_13_method_7_code 7 = .ok (.bipush 57, 2) := by decide +kernel
theorem d_Mo_isDigit_9 : decode prog_13_method_7_code 9 = .ok (.if_icmp .gt 7, 3) := by decide +kernel
theorem d_Mo_isDigit_12 : decode prog_13_method_7_code 12 = .ok (.iconst 1, 1) := by decide +kernel
theorem d_Mo_isDigit_13 : decode prog_13_method_7_code 13 = .ok (.goto 4, 3) := by decide +kernel
theorem d_Mo_isDigit_16 : decode prog_13_method_7_code 16 = .ok (.iconst 0, 1) := by decide +kernel
theorem d_Mo_isDigit_17 : decode prog_13_method_7_code 17 = .ok (.ireturn, 1) := by decide +kernel
def wp_Mo_isDigit_b17   (Q : Int32 → sx_M → sx_L → Prop) (w0 : Int32) (σ : sx_M) (τ : sx_L) : Prop := (w0 = 0 ∨ w0 = 1) ∧ (Q w0 σ τ)
def wp_Mo_isDigit_b16   (Q : Int32 → sx_M → sx_L → Prop)  (σ : sx_M) (τ : sx_L) : Prop := wp_Mo_isDigit_b17 Q 0 σ τ
def wp_Mo_isDigit (x0 : Int32) (σ : sx_M) (τ : sx_L) (Q : Int32 → sx_M → sx_L → Prop) : Prop := if x0 < 48 then (wp_Mo_isDigit_b16 Q σ τ) else (if 57 < x0 then (wp_Mo_isDigit_b16 Q σ τ) else (wp_Mo_isDigit_b17 Q 1 σ τ))
abbrev rm_Mo_isDigit : Room := { frames := 0, cells := 0, slots := 0, locals := 0 }
set_option maxRecDepth 100000 in
set_option maxHeartbeats 4000000 in
theorem g_Mo_isDigit_b17 {l : Launch} {K : sx_K} {X : sx_T}   {Q : Int32 → sx_M → sx_L → Prop} (hX : sx_C X K prog_13_method_7_code 1 "SensorTreeModel" (some .boolean) rm_Mo_isDigit l) (hK : kx_F K) (hE : sx_E X K (sx_Qi K Q))  (w0 : Int32) (σ : sx_M) (τ : sx_L)  (h : wp_Mo_isDigit_b17 Q  w0 σ τ) : sx_G X K 1 17 [] [.int w0] (sx_H K σ τ) := by
  unfold wp_Mo_isDigit_b17 at h
  obtain ⟨hc1, h⟩ := h
  exact sx_zret hX hE hc1 h d_Mo_isDigit_17
set_option maxRecDepth 100000 in
set_option maxHeartbeats 4000000 in
theorem g_Mo_isDigit_b16 {l : Launch} {K : sx_K} {X : sx_T}   {Q : Int32 → sx_M → sx_L → Prop} (hX : sx_C X K prog_13_method_7_code 1 "SensorTreeModel" (some .boolean) rm_Mo_isDigit l) (hK : kx_F K) (hE : sx_E X K (sx_Qi K Q))   (σ : sx_M) (τ : sx_L)  (h : wp_Mo_isDigit_b16 Q  σ τ) : sx_G X K 1 16 [] [] (sx_H K σ τ) := by
  unfold wp_Mo_isDigit_b16 at h
  refine sx_iconst (v := 0) (pc2 := 17) hX d_Mo_isDigit_16 (by decide) rfl ?_
  exact g_Mo_isDigit_b17 hX hK hE   0 _ _ h
set_option maxRecDepth 100000 in
set_option maxHeartbeats 4000000 in
theorem c_Mo_isDigit {l : Launch} {K : sx_K} (hK : kx_F K) (x0 : Int32) (σ : sx_M) (τ : sx_L) (Q : Int32 → sx_M → sx_L → Prop)  (h : wp_Mo_isDigit x0 σ τ Q) : Met l y_Mo_isDigit (sx_wd y_Mo_isDigit prog_13_method_7_code 1 (some .boolean)) rm_Mo_isDigit (sx_Pc K [.int x0] σ τ) (sx_Qi K Q) 0 0 (sx_A K) := by
  refine sx_met (by decide) (Nat.le_of_ble_eq_true rfl) (fun X hX hE => ?_)
  replace hX : sx_C X K prog_13_method_7_code 1 "SensorTreeModel" (some .boolean) rm_Mo_isDigit l := hX
  show sx_G X K 1 0 [(0, .int x0)] [] (sx_H K σ τ)
  unfold wp_Mo_isDigit at h
  refine sx_iload_n (pc2 := 1) hX 0 d_Mo_isDigit_0 rfl rfl rfl ?_
  refine sx_bipush (v := 48) (pc2 := 3) hX d_Mo_isDigit_1 (by decide) rfl ?_
  refine sx_icmp_lt (tgt := 16) (pc2 := 6) hX d_Mo_isDigit_3 (by decide) rfl (fun hc2 => ?_) (fun hc2 => ?_)
  · replace h := sx_t h hc2
    refine sx_sub [] [] rfl ?_
    exact g_Mo_isDigit_b16 hX hK hE   _ _ h
  · replace h := sx_f h hc2
    refine sx_iload_n (pc2 := 7) hX 0 d_Mo_isDigit_6 rfl rfl rfl ?_
    refine sx_bipush (v := 57) (pc2 := 9) hX d_Mo_isDigit_7 (by decide) rfl ?_
    refine sx_icmp_gt (tgt := 16) (pc2 := 12) hX d_Mo_isDigit_9 (by decide) rfl (fun hc3 => ?_) (fun hc3 => ?_)
    · replace h := sx_t h hc3
      refine sx_sub [] [] rfl ?_
      exact g_Mo_isDigit_b16 hX hK hE   _ _ h
    · replace h := sx_f h hc3
      refine sx_iconst (v := 1) (pc2 := 13) hX d_Mo_isDigit_12 (by decide) rfl ?_
      refine sx_goto (tgt := 17) hX d_Mo_isDigit_13 (by decide) ?_
      refine sx_sub [] [] rfl ?_
      exact g_Mo_isDigit_b17 hX hK hE   1 _ _ h
theorem cl_Mo_136 {X : sx_T} {K : sx_K} {cc : ByteArray} {nL : Nat} {ret : Option FieldType} {rm : Room} {l : Launch} {pc pc2 : Nat} {lv : List (Nat × Value)} {st : List Value} {σ : sx_M} {τ : sx_L} {x0 : Int32} {Q : Int32 → sx_M → sx_L → Prop} (hX : sx_C X K cc nL "SensorTreeModel" ret rm l) (hK : kx_F K) (h : wp_Mo_isDigit x0 σ τ Q)  (hR : rm_Mo_isDigit.frames + 1 ≤ rm.frames ∧ 8 + (1 + 11) + rm_Mo_isDigit.locals ≤ rm.locals) (hst : (st.map fun v => v.category).sum ≤ 8) (hd : decode cc pc = .ok (.invokestatic 136, 3)) (hpc : pc + 3 = pc2) (kk : ∀ (r : Int32) (σ2 : sx_M) (τ2 : sx_L), Q r σ2 τ2 → sx_G X K nL pc2 lv (.int r :: st) (sx_H K σ2 τ2)) : sx_G X K nL pc lv (.int x0 :: st) (sx_H K σ τ) :=
  sx_callSi (Q := Q) (As := [.int x0]) hX (c_Mo_isDigit hK x0 σ τ Q  h) lk_379 hy_Mo_isDigit lk_377 lk_364 lk_378 ⟨rfl, rfl⟩ hR hst rfl hd hpc kk
def y_Mo_isLetter : MethodName := ⟨"SensorTreeModel", "isLetter", "(I)Z"⟩
theorem hy_Mo_isLetter : y_Mo_isLetter.cls ≠ "java/lang/invoke/MethodHandle" ∧ y_Mo_isLetter.cls ≠ "java/lang/invoke/VarHandle" ∧ (parseMethodDescriptor y_Mo_isLetter.desc).map (fun d => d.parameters.length) = some 1 := by decide +kernel
theorem d_Mo_isLetter_0 : decode prog_13_method_8_code 0 = .ok (.iload_n 0, 1) := by decide +kernel
theorem d_Mo_isLetter_1 : decode prog_13_method_8_code 1 = .ok (.bipush 97, 2) := by decide +kernel
theorem d_Mo_isLetter_3 : decode prog_13_method_8_code 3 = .ok (.if_icmp .lt 13, 3) := by decide +kernel
theorem d_Mo_isLetter_6 : decode prog_13_method_8_code 6 = .ok (.iload_n 0, 1) := by decide +kernel
theorem d_Mo_isLetter_7 : decode prog_13_method_8_code 7 = .ok (.bipush 122, 2) := by decide +kernel
theorem d_Mo_isLetter_9 : decode prog_13_method_8_code 9 = .ok (.if_icmp .gt 7, 3) := by decide +kernel
theorem d_Mo_isLetter_12 : decode prog_13_method_8_code 12 = .ok (.iconst 1, 1) := by decide +kernel
theorem d_Mo_isLetter_13 : decode prog_13_method_8_code 13 = .ok (.goto 4, 3) := by decide +kernel
theorem d_Mo_isLetter_16 : decode prog_13_method_8_code 16 = .ok (.iconst 0, 1) := by decide +kernel
theorem d_Mo_isLetter_17 : decode prog_13_method_8_code 17 = .ok (.ireturn, 1) := by decide +kernel
def wp_Mo_isLetter_b17   (Q : Int32 → sx_M → sx_L → Prop) (w0 : Int32) (σ : sx_M) (τ : sx_L) : Prop := (w0 = 0 ∨ w0 = 1) ∧ (Q w0 σ τ)
def wp_Mo_isLetter_b16   (Q : Int32 → sx_M → sx_L → Prop)  (σ : sx_M) (τ : sx_L) : Prop := wp_Mo_isLetter_b17 Q 0 σ τ
def wp_Mo_isLetter (x0 : Int32) (σ : sx_M) (τ : sx_L) (Q : Int32 → sx_M → sx_L → Prop) : Prop := if x0 < 97 then (wp_Mo_isLetter_b16 Q σ τ) else (if 122 < x0 then (wp_Mo_isLetter_b16 Q σ τ) else (wp_Mo_isLetter_b17 Q 1 σ τ))
abbrev rm_Mo_isLetter : Room := { frames := 0, cells := 0, slots := 0, locals := 0 }
set_option maxRecDepth 100000 in
set_option maxHeartbeats 4000000 in
theorem g_Mo_isLetter_b17 {l : Launch} {K : sx_K} {X : sx_T}   {Q : Int32 → sx_M → sx_L → Prop} (hX : sx_C X K prog_13_method_8_code 1 "SensorTreeModel" (some .boolean) rm_Mo_isLetter l) (hK : kx_F K) (hE : sx_E X K (sx_Qi K Q))  (w0 : Int32) (σ : sx_M) (τ : sx_L)  (h : wp_Mo_isLetter_b17 Q  w0 σ τ) : sx_G X K 1 17 [] [.int w0] (sx_H K σ τ) := by
  unfold wp_Mo_isLetter_b17 at h
  obtain ⟨hc1, h⟩ := h
  exact sx_zret hX hE hc1 h d_Mo_isLetter_17
set_option maxRecDepth 100000 in
set_option maxHeartbeats 4000000 in
theorem g_Mo_isLetter_b16 {l : Launch} {K : sx_K} {X : sx_T}   {Q : Int32 → sx_M → sx_L → Prop} (hX : sx_C X K prog_13_method_8_code 1 "SensorTreeModel" (some .boolean) rm_Mo_isLetter l) (hK : kx_F K) (hE : sx_E X K (sx_Qi K Q))   (σ : sx_M) (τ : sx_L)  (h : wp_Mo_isLetter_b16 Q  σ τ) : sx_G X K 1 16 [] [] (sx_H K σ τ) := by
  unfold wp_Mo_isLetter_b16 at h
  refine sx_iconst (v := 0) (pc2 := 17) hX d_Mo_isLetter_16 (by decide) rfl ?_
  exact g_Mo_isLetter_b17 hX hK hE   0 _ _ h
set_option maxRecDepth 100000 in
set_option maxHeartbeats 4000000 in
theorem c_Mo_isLetter {l : Launch} {K : sx_K} (hK : kx_F K) (x0 : Int32) (σ : sx_M) (τ : sx_L) (Q : Int32 → sx_M → sx_L → Prop)  (h : wp_Mo_isLetter x0 σ τ Q) : Met l y_Mo_isLetter (sx_wd y_Mo_isLetter prog_13_method_8_code 1 (some .boolean)) rm_Mo_isLetter (sx_Pc K [.int x0] σ τ) (sx_Qi K Q) 0 0 (sx_A K) := by
  refine sx_met (by decide) (Nat.le_of_ble_eq_true rfl) (fun X hX hE => ?_)
  replace hX : sx_C X K prog_13_method_8_code 1 "SensorTreeModel" (some .boolean) rm_Mo_isLetter l := hX
  show sx_G X K 1 0 [(0, .int x0)] [] (sx_H K σ τ)
  unfold wp_Mo_isLetter at h
  refine sx_iload_n (pc2 := 1) hX 0 d_Mo_isLetter_0 rfl rfl rfl ?_
  refine sx_bipush (v := 97) (pc2 := 3) hX d_Mo_isLetter_1 (by decide) rfl ?_
  refine sx_icmp_lt (tgt := 16) (pc2 := 6) hX d_Mo_isLetter_3 (by decide) rfl (fun hc2 => ?_) (fun hc2 => ?_)
  · replace h := sx_t h hc2
    refine sx_sub [] [] rfl ?_
    exact g_Mo_isLetter_b16 hX hK hE   _ _ h
  · replace h := sx_f h hc2
    refine sx_iload_n (pc2 := 7) hX 0 d_Mo_isLetter_6 rfl rfl rfl ?_
    refine sx_bipush (v := 122) (pc2 := 9) hX d_Mo_isLetter_7 (by decide) rfl ?_
    refine sx_icmp_gt (tgt := 16) (pc2 := 12) hX d_Mo_isLetter_9 (by decide) rfl (fun hc3 => ?_) (fun hc3 => ?_)
    · replace h := sx_t h hc3
      refine sx_sub [] [] rfl ?_
      exact g_Mo_isLetter_b16 hX hK hE   _ _ h
    · replace h := sx_f h hc3
      refine sx_iconst (v := 1) (pc2 := 13) hX d_Mo_isLetter_12 (by decide) rfl ?_
      refine sx_goto (tgt := 17) hX d_Mo_isLetter_13 (by decide) ?_
      refine sx_sub [] [] rfl ?_
      exact g_Mo_isLetter_b17 hX hK hE   1 _ _ h
theorem cl_Mo_132 {X : sx_T} {K : sx_K} {cc : ByteArray} {nL : Nat} {ret : Option FieldType} {rm : Room} {l : Launch} {pc pc2 : Nat} {lv : List (Nat × Value)} {st : List Value} {σ : sx_M} {τ : sx_L} {x0 : Int32} {Q : Int32 → sx_M → sx_L → Prop} (hX : sx_C X K cc nL "SensorTreeModel" ret rm l) (hK : kx_F K) (h : wp_Mo_isLetter x0 σ τ Q)  (hR : rm_Mo_isLetter.frames + 1 ≤ rm.frames ∧ 8 + (1 + 11) + rm_Mo_isLetter.locals ≤ rm.locals) (hst : (st.map fun v => v.category).sum ≤ 8) (hd : decode cc pc = .ok (.invokestatic 132, 3)) (hpc : pc + 3 = pc2) (kk : ∀ (r : Int32) (σ2 : sx_M) (τ2 : sx_L), Q r σ2 τ2 → sx_G X K nL pc2 lv (.int r :: st) (sx_H K σ2 τ2)) : sx_G X K nL pc lv (.int x0 :: st) (sx_H K σ τ) :=
  sx_callSi (Q := Q) (As := [.int x0]) hX (c_Mo_isLetter hK x0 σ τ Q  h) lk_382 hy_Mo_isLetter lk_380 lk_364 lk_381 ⟨rfl, rfl⟩ hR hst rfl hd hpc kk
def y_Mo_appends : MethodName := ⟨"SensorTreeModel", "appends", "(JI)J"⟩
theorem hy_Mo_appends : y_Mo_appends.cls ≠ "java/lang/invoke/MethodHandle" ∧ y_Mo_appends.cls ≠ "java/lang/invoke/VarHandle" ∧ (parseMethodDescriptor y_Mo_appends.desc).map (fun d => d.parameters.length) = some 2 := by decide +kernel
theorem d_Mo_appends_0 : decode prog_13_method_9_code 0 = .ok (.iload_n 2, 1) := by decide +kernel
theorem d_Mo_appends_1 : decode prog_13_method_9_code 1 = .ok (.ifCond .ne 7, 3) := by decide +kernel
theorem d_Mo_appends_4 : decode prog_13_method_9_code 4 = .ok (.lload_n 0, 1) := by decide +kernel
theorem d_Mo_appends_5 : decode prog_13_method_9_code 5 = .ok (.goto 16, 3) := by decide +kernel
theorem d_Mo_appends_8 : decode prog_13_method_9_code 8 = .ok (.ldc2_w 115, 3) := by decide +kernel
theorem d_Mo_appends_11 : decode prog_13_method_9_code 11 = .ok (.lload_n 0, 1) := by decide +kernel
theorem d_Mo_appends_12 : decode prog_13_method_9_code 12 = .ok (.lmul, 1) := by decide +kernel
theorem d_Mo_appends_13 : decode prog_13_method_9_code 13 = .ok (.iload_n 2, 1) := by decide +kernel
theorem d_Mo_appends_14 : decode prog_13_method_9_code 14 = .ok (.bipush 97, 2) := by decide +kernel
theorem d_Mo_appends_16 : decode prog_13_method_9_code 16 = .ok (.isub, 1) := by decide +kernel
theorem d_Mo_appends_17 : decode prog_13_method_9_code 17 = .ok (.iconst 1, 1) := by decide +kernel
theorem d_Mo_appends_18 : decode prog_13_method_9_code 18 = .ok (.iadd, 1) := by decide +kernel
theorem d_Mo_appends_19 : decode prog_13_method_9_code 19 = .ok (.i2l, 1) := by decide +kernel
theorem d_Mo_appends_20 : decode prog_13_method_9_code 20 = .ok (.ladd, 1) := by decide +kernel
theorem d_Mo_appends_21 : decode prog_13_method_9_code 21 = .ok (.lreturn, 1) := by decide +kernel
def wp_Mo_appends_b21   (Q : Int64 → sx_M → sx_L → Prop) (w0 : Int64) (σ : sx_M) (τ : sx_L) : Prop := Q w0 σ τ
def wp_Mo_appends (x0 : Int64) (x2 : Int32) (σ : sx_M) (τ : sx_L) (Q : Int64 → sx_M → sx_L → Prop) : Prop := if x2 = 0 then (wp_Mo_appends_b21 Q x0 σ τ) else (wp_Mo_appends_b21 Q ((27 * x0) + (((x2 - 97) + 1).toInt64)) σ τ)
abbrev rm_Mo_appends : Room := { frames := 0, cells := 0, slots := 0, locals := 0 }
set_option maxRecDepth 100000 in
set_option maxHeartbeats 4000000 in
theorem g_Mo_appends_b21 {l : Launch} {K : sx_K} {X : sx_T}   {Q : Int64 → sx_M → sx_L → Prop} (hX : sx_C X K prog_13_method_9_code 3 "SensorTreeModel" (some .long) rm_Mo_appends l) (hK : kx_F K) (hE : sx_E X K (sx_Ql K Q))  (w0 : Int64) (σ : sx_M) (τ : sx_L)  (h : wp_Mo_appends_b21 Q  w0 σ τ) : sx_G X K 3 21 [] [.long w0] (sx_H K σ τ) := by
  unfold wp_Mo_appends_b21 at h
  exact sx_lret hX hE h d_Mo_appends_21
set_option maxRecDepth 100000 in
set_option maxHeartbeats 4000000 in
theorem c_Mo_appends {l : Launch} {K : sx_K} (hK : kx_F K) (x0 : Int64) (x2 : Int32) (σ : sx_M) (τ : sx_L) (Q : Int64 → sx_M → sx_L → Prop)  (h : wp_Mo_appends x0 x2 σ τ Q) : Met l y_Mo_appends (sx_wd y_Mo_appends prog_13_method_9_code 3 (some .long)) rm_Mo_appends (sx_Pc K [.long x0, .int x2] σ τ) (sx_Ql K Q) 0 0 (sx_A K) := by
  refine sx_met (by decide) (Nat.le_of_ble_eq_true rfl) (fun X hX hE => ?_)
  replace hX : sx_C X K prog_13_method_9_code 3 "SensorTreeModel" (some .long) rm_Mo_appends l := hX
  show sx_G X K 3 0 [(0, .long x0), (2, .int x2)] [] (sx_H K σ τ)
  unfold wp_Mo_appends at h
  refine sx_iload_n (pc2 := 1) hX 1 d_Mo_appends_0 rfl rfl rfl ?_
  refine sx_if_ne (tgt := 8) (pc2 := 4) hX d_Mo_appends_1 (by decide) rfl (fun hc1 => ?_) (fun hc1 => ?_)
  · replace h := sx_f h hc1
    refine sx_ldc2 (v := 27) (pc2 := 11) hX lk_19 d_Mo_appends_8 rfl ?_
    refine sx_lload_n (pc2 := 12) hX 0 d_Mo_appends_11 rfl rfl rfl ?_
    refine sx_lmul (pc2 := 13) hX d_Mo_appends_12 rfl ?_
    refine sx_iload_n (pc2 := 14) hX 1 d_Mo_appends_13 rfl rfl rfl ?_
    refine sx_bipush (v := 97) (pc2 := 16) hX d_Mo_appends_14 (by decide) rfl ?_
    refine sx_isub (pc2 := 17) hX d_Mo_appends_16 rfl ?_
    refine sx_iconst (v := 1) (pc2 := 18) hX d_Mo_appends_17 (by decide) rfl ?_
    refine sx_iadd (pc2 := 19) hX d_Mo_appends_18 rfl ?_
    refine sx_i2l (pc2 := 20) hX d_Mo_appends_19 rfl ?_
    refine sx_ladd (pc2 := 21) hX d_Mo_appends_20 rfl ?_
    refine sx_sub [] [] rfl ?_
    exact g_Mo_appends_b21 hX hK hE   ((27 * x0) + (((x2 - 97) + 1).toInt64)) _ _ h
  · replace h := sx_t h hc1
    refine sx_lload_n (pc2 := 5) hX 0 d_Mo_appends_4 rfl rfl rfl ?_
    refine sx_goto (tgt := 21) hX d_Mo_appends_5 (by decide) ?_
    refine sx_sub [] [] rfl ?_
    exact g_Mo_appends_b21 hX hK hE   x0 _ _ h
theorem cl_Mo_117 {X : sx_T} {K : sx_K} {cc : ByteArray} {nL : Nat} {ret : Option FieldType} {rm : Room} {l : Launch} {pc pc2 : Nat} {lv : List (Nat × Value)} {st : List Value} {σ : sx_M} {τ : sx_L} {x0 : Int64} {x2 : Int32} {Q : Int64 → sx_M → sx_L → Prop} (hX : sx_C X K cc nL "SensorTreeModel" ret rm l) (hK : kx_F K) (h : wp_Mo_appends x0 x2 σ τ Q)  (hR : rm_Mo_appends.frames + 1 ≤ rm.frames ∧ 8 + (3 + 11) + rm_Mo_appends.locals ≤ rm.locals) (hst : (st.map fun v => v.category).sum ≤ 8) (hd : decode cc pc = .ok (.invokestatic 117, 3)) (hpc : pc + 3 = pc2) (kk : ∀ (r : Int64) (σ2 : sx_M) (τ2 : sx_L), Q r σ2 τ2 → sx_G X K nL pc2 lv (.long r :: st) (sx_H K σ2 τ2)) : sx_G X K nL pc lv (.int x2 :: .long x0 :: st) (sx_H K σ τ) :=
  sx_callSl (Q := Q) (As := [.long x0, .int x2]) hX (c_Mo_appends hK x0 x2 σ τ Q  h) lk_370 hy_Mo_appends lk_368 lk_364 lk_369 ⟨rfl, rfl⟩ hR hst rfl hd hpc kk
def y_Mo_letters : MethodName := ⟨"SensorTreeModel", "letters", "(IIIIIII)J"⟩
theorem hy_Mo_letters : y_Mo_letters.cls ≠ "java/lang/invoke/MethodHandle" ∧ y_Mo_letters.cls ≠ "java/lang/invoke/VarHandle" ∧ (parseMethodDescriptor y_Mo_letters.desc).map (fun d => d.parameters.length) = some 7 := by decide +kernel
theorem d_Mo_letters_0 : decode prog_13_method_10_code 0 = .ok (.lconst 0, 1) := by decide +kernel
theorem d_Mo_letters_1 : decode prog_13_method_10_code 1 = .ok (.iload_n 0, 1) := by decide +kernel
theorem d_Mo_letters_2 : decode prog_13_method_10_code 2 = .ok (.invokestatic 117, 3) := by decide +kernel
theorem d_Mo_letters_5 : decode prog_13_method_10_code 5 = .ok (.iload_n 1, 1) := by decide +kernel
theorem d_Mo_letters_6 : decode prog_13_method_10_code 6 = .ok (.invokestatic 117, 3) := by decide +kernel
theorem d_Mo_letters_9 : decode prog_13_method_10_code 9 = .ok (.iload_n 2, 1) := by decide +kernel
theorem d_Mo_letters_10 : decode prog_13_method_10_code 10 = .ok (.invokestatic 117, 3) := by decide +kernel
theorem d_Mo_letters_13 : decode prog_13_method_10_code 13 = .ok (.iload_n 3, 1) := by decide +kernel
theorem d_Mo_letters_14 : decode prog_13_method_10_code 14 = .ok (.invokestatic 117, 3) := by decide +kernel
theorem d_Mo_letters_17 : decode prog_13_method_10_code 17 = .ok (.iload 4, 2) := by decide +kernel
theorem d_Mo_letters_19 : decode prog_13_method_10_code 19 = .ok (.invokestatic 117, 3) := by decide +kernel
theorem d_Mo_letters_22 : decode prog_13_method_10_code 22 = .ok (.iload 5, 2) := by decide +kernel
theorem d_Mo_letters_24 : decode prog_13_method_10_code 24 = .ok (.invokestatic 117, 3) := by decide +kernel
theorem d_Mo_letters_27 : decode prog_13_method_10_code 27 = .ok (.iload 6, 2) := by decide +kernel
theorem d_Mo_letters_29 : decode prog_13_method_10_code 29 = .ok (.invokestatic 117, 3) := by decide +kernel
theorem d_Mo_letters_32 : decode prog_13_method_10_code 32 = .ok (.lreturn, 1) := by decide +kernel
def wp_Mo_letters (x0 : Int32) (x1 : Int32) (x2 : Int32) (x3 : Int32) (x4 : Int32) (x5 : Int32) (x6 : Int32) (σ : sx_M) (τ : sx_L) (Q : Int64 → sx_M → sx_L → Prop) : Prop := wp_Mo_appends (0 : Int64) x0 σ τ (fun r1 σ1 τ1 => wp_Mo_appends r1 x1 σ1 τ1 (fun r2 σ2 τ2 => wp_Mo_appends r2 x2 σ2 τ2 (fun r3 σ3 τ3 => wp_Mo_appends r3 x3 σ3 τ3 (fun r4 σ4 τ4 => wp_Mo_appends r4 x4 σ4 τ4 (fun r5 σ5 τ5 => wp_Mo_appends r5 x5 σ5 τ5 (fun r6 σ6 τ6 => wp_Mo_appends r6 x6 σ6 τ6 (fun r7 σ7 τ7 => Q r7 σ7 τ7)))))))
abbrev rm_Mo_letters : Room := { frames := 1, cells := 0, slots := 0, locals := 22 }
set_option maxRecDepth 100000 in
set_option maxHeartbeats 4000000 in
theorem c_Mo_letters {l : Launch} {K : sx_K} (hK : kx_F K) (x0 : Int32) (x1 : Int32) (x2 : Int32) (x3 : Int32) (x4 : Int32) (x5 : Int32) (x6 : Int32) (σ : sx_M) (τ : sx_L) (Q : Int64 → sx_M → sx_L → Prop)  (h : wp_Mo_letters x0 x1 x2 x3 x4 x5 x6 σ τ Q) : Met l y_Mo_letters (sx_wd y_Mo_letters prog_13_method_10_code 7 (some .long)) rm_Mo_letters (sx_Pc K [.int x0, .int x1, .int x2, .int x3, .int x4, .int x5, .int x6] σ τ) (sx_Ql K Q) 0 0 (sx_A K) := by
  refine sx_met (by decide) (Nat.le_of_ble_eq_true rfl) (fun X hX hE => ?_)
  replace hX : sx_C X K prog_13_method_10_code 7 "SensorTreeModel" (some .long) rm_Mo_letters l := hX
  show sx_G X K 7 0 [(0, .int x0), (1, .int x1), (2, .int x2), (3, .int x3), (4, .int x4), (5, .int x5), (6, .int x6)] [] (sx_H K σ τ)
  unfold wp_Mo_letters at h
  refine sx_lconst (v := 0) (pc2 := 1) hX d_Mo_letters_0 (by decide) rfl ?_
  refine sx_iload_n (pc2 := 2) hX 0 d_Mo_letters_1 rfl rfl rfl ?_
  refine cl_Mo_117 (pc2 := 5) hX hK h  ⟨Nat.le_of_ble_eq_true rfl, Nat.le_of_ble_eq_true rfl⟩ (Nat.le_of_ble_eq_true rfl) d_Mo_letters_2 rfl (fun r1 σ1 τ1 h => ?_)
  refine sx_iload_n (pc2 := 6) hX 1 d_Mo_letters_5 rfl rfl rfl ?_
  refine cl_Mo_117 (pc2 := 9) hX hK h  ⟨Nat.le_of_ble_eq_true rfl, Nat.le_of_ble_eq_true rfl⟩ (Nat.le_of_ble_eq_true rfl) d_Mo_letters_6 rfl (fun r2 σ2 τ2 h => ?_)
  refine sx_iload_n (pc2 := 10) hX 2 d_Mo_letters_9 rfl rfl rfl ?_
  refine cl_Mo_117 (pc2 := 13) hX hK h  ⟨Nat.le_of_ble_eq_true rfl, Nat.le_of_ble_eq_true rfl⟩ (Nat.le_of_ble_eq_true rfl) d_Mo_letters_10 rfl (fun r3 σ3 τ3 h => ?_)
  refine sx_iload_n (pc2 := 14) hX 3 d_Mo_letters_13 rfl rfl rfl ?_
  refine cl_Mo_117 (pc2 := 17) hX hK h  ⟨Nat.le_of_ble_eq_true rfl, Nat.le_of_ble_eq_true rfl⟩ (Nat.le_of_ble_eq_true rfl) d_Mo_letters_14 rfl (fun r4 σ4 τ4 h => ?_)
  refine sx_iload (pc2 := 19) hX 4 d_Mo_letters_17 rfl rfl ?_
  refine cl_Mo_117 (pc2 := 22) hX hK h  ⟨Nat.le_of_ble_eq_true rfl, Nat.le_of_ble_eq_true rfl⟩ (Nat.le_of_ble_eq_true rfl) d_Mo_letters_19 rfl (fun r5 σ5 τ5 h => ?_)
  refine sx_iload (pc2 := 24) hX 5 d_Mo_letters_22 rfl rfl ?_
  refine cl_Mo_117 (pc2 := 27) hX hK h  ⟨Nat.le_of_ble_eq_true rfl, Nat.le_of_ble_eq_true rfl⟩ (Nat.le_of_ble_eq_true rfl) d_Mo_letters_24 rfl (fun r6 σ6 τ6 h => ?_)
  refine sx_iload (pc2 := 29) hX 6 d_Mo_letters_27 rfl rfl ?_
  refine cl_Mo_117 (pc2 := 32) hX hK h  ⟨Nat.le_of_ble_eq_true rfl, Nat.le_of_ble_eq_true rfl⟩ (Nat.le_of_ble_eq_true rfl) d_Mo_letters_29 rfl (fun r7 σ7 τ7 h => ?_)
  exact sx_lret hX hE h d_Mo_letters_32
def y_Mo_token : MethodName := ⟨"SensorTreeModel", "token", "(IIIJ)V"⟩
theorem hy_Mo_token : y_Mo_token.cls ≠ "java/lang/invoke/MethodHandle" ∧ y_Mo_token.cls ≠ "java/lang/invoke/VarHandle" ∧ (parseMethodDescriptor y_Mo_token.desc).map (fun d => d.parameters.length) = some 4 := by decide +kernel
theorem d_Mo_token_0 : decode prog_13_method_11_code 0 = .ok (.aload_n 0, 1) := by decide +kernel
theorem d_Mo_token_1 : decode prog_13_method_11_code 1 = .ok (.getfield 20, 3) := by decide +kernel
theorem d_Mo_token_4 : decode prog_13_method_11_code 4 = .ok (.aload_n 0, 1) := by decide +kernel
theorem d_Mo_token_5 : decode prog_13_method_11_code 5 = .ok (.getfield 121, 3) := by decide +kernel
theorem d_Mo_token_8 : decode prog_13_method_11_code 8 = .ok (.iload_n 1, 1) := by decide +kernel
theorem d_Mo_token_9 : decode prog_13_method_11_code 9 = .ok (.iastore, 1) := by decide +kernel
theorem d_Mo_token_10 : decode prog_13_method_11_code 10 = .ok (.aload_n 0, 1) := by decide +kernel
theorem d_Mo_token_11 : decode prog_13_method_11_code 11 = .ok (.getfield 24, 3) := by decide +kernel
theorem d_Mo_token_14 : decode prog_13_method_11_code 14 = .ok (.aload_n 0, 1) := by decide +kernel
theorem d_Mo_token_15 : decode prog_13_method_11_code 15 = .ok (.getfield 121, 3) := by decide +kernel
theorem d_Mo_token_18 : decode prog_13_method_11_code 18 = .ok (.iload_n 2, 1) := by decide +kernel
theorem d_Mo_token_19 : decode prog_13_method_11_code 19 = .ok (.iastore, 1) := by decide +kernel
theorem d_Mo_token_20 : decode prog_13_method_11_code 20 = .ok (.aload_n 0, 1) := by decide +kernel
theorem d_Mo_token_21 : decode prog_13_method_11_code 21 = .ok (.getfield 27, 3) := by decide +kernel
theorem d_Mo_token_24 : decode prog_13_method_11_code 24 = .ok (.aload_n 0, 1) := by decide +kernel
theorem d_Mo_token_25 : decode prog_13_method_11_code 25 = .ok (.getfield 121, 3) := by decide +kernel
theorem d_Mo_token_28 : decode prog_13_method_11_code 28 = .ok (.iload_n 3, 1) := by decide +kernel
theorem d_Mo_token_29 : decode prog_13_method_11_code 29 = .ok (.iastore, 1) := by decide +kernel
theorem d_Mo_token_30 : decode prog_13_method_11_code 30 = .ok (.aload_n 0, 1) := by decide +kernel
theorem d_Mo_token_31 : decode prog_13_method_11_code 31 = .ok (.getfield 30, 3) := by decide +kernel
theorem d_Mo_token_34 : decode prog_13_method_11_code 34 = .ok (.aload_n 0, 1) := by decide +kernel
theorem d_Mo_token_35 : decode prog_13_method_11_code 35 = .ok (.getfield 121, 3) := by decide +kernel
theorem d_Mo_token_38 : decode prog_13_method_11_code 38 = .ok (.lload 4, 2) := by decide +kernel
theorem d_Mo_token_40 : decode prog_13_method_11_code 40 = .ok (.lastore, 1) := by decide +kernel
theorem d_Mo_token_41 : decode prog_13_method_11_code 41 = .ok (.aload_n 0, 1) := by decide +kernel
theorem d_Mo_token_42 : decode prog_13_method_11_code 42 = .ok (.dup, 1) := by decide +kernel
theorem d_Mo_token_43 : decode prog_13_method_11_code 43 = .ok (.getfield 121, 3) := by decide +kernel
theorem d_Mo_token_46 : decode prog_13_method_11_code 46 = .ok (.iconst 1, 1) := by decide +kernel
theorem d_Mo_token_47 : decode prog_13_method_11_code 47 = .ok (.iadd, 1) := by decide +kernel
theorem d_Mo_token_48 : decode prog_13_method_11_code 48 = .ok (.putfield 121, 3) := by decide +kernel
theorem d_Mo_token_51 : decode prog_13_method_11_code 51 = .ok (.return_, 1) := by decide +kernel
def wp_Mo_token (x1 : Int32) (x2 : Int32) (x3 : Int32) (x4 : Int64) (σ : sx_M) (τ : sx_L) (Q : sx_M → sx_L → Prop) : Prop := vp_in (σ 50 0 0 10) 403 ∧ (∀ σ2 : sx_M, σ2 = sx_u σ 53 0 0 (σ 50 0 0 10).toNatClampNeg x1 → (vp_in (σ2 50 0 0 10) 403 ∧ (∀ σ4 : sx_M, σ4 = sx_u σ2 54 0 0 (σ2 50 0 0 10).toNatClampNeg x2 → (vp_in (σ4 50 0 0 10) 403 ∧ (∀ σ6 : sx_M, σ6 = sx_u σ4 55 0 0 (σ4 50 0 0 10).toNatClampNeg x3 → (vp_in (σ6 50 0 0 10) 403 ∧ (∀ τ8 : sx_L, τ8 = sx_ul τ 56 (σ6 50 0 0 10).toNatClampNeg x4 → (∀ σ9 : sx_M, σ9 = sx_u σ6 50 0 0 10 ((σ6 50 0 0 10) + 1) → (Q σ9 τ8)))))))))
abbrev rm_Mo_token : Room := { frames := 0, cells := 0, slots := 0, locals := 0 }
set_option maxRecDepth 100000 in
set_option maxHeartbeats 4000000 in
theorem c_Mo_token {l : Launch} {K : sx_K} (hK : kx_F K) (x1 : Int32) (x2 : Int32) (x3 : Int32) (x4 : Int64) (σ : sx_M) (τ : sx_L) (Q : sx_M → sx_L → Prop)  (h : wp_Mo_token x1 x2 x3 x4 σ τ Q) : Met l y_Mo_token (sx_wd y_Mo_token prog_13_method_11_code 6 none) rm_Mo_token (sx_Pc K [.ref (K.2.2.1 50 0 0), .int x1, .int x2, .int x3, .long x4] σ τ) (sx_Qv K Q) 0 0 (sx_A K) := by
  refine sx_met (by decide) (Nat.le_of_ble_eq_true rfl) (fun X hX hE => ?_)
  replace hX : sx_C X K prog_13_method_11_code 6 "SensorTreeModel" none rm_Mo_token l := hX
  show sx_G X K 6 0 [(0, .ref (K.2.2.1 50 0 0)), (1, .int x1), (2, .int x2), (3, .int x3), (4, .long x4)] [] (sx_H K σ τ)
  unfold wp_Mo_token at h
  refine sx_aload_n (pc2 := 1) hX 0 d_Mo_token_0 rfl rfl rfl ?_
  refine fg_Mo_20 (pc2 := 4) hX (kr_50 hK) d_Mo_token_1 rfl ?_
  refine sx_aload_n (pc2 := 5) hX 0 d_Mo_token_4 rfl rfl rfl ?_
  refine fg_Mo_121 (pc2 := 8) hX (kr_50 hK) d_Mo_token_5 rfl ?_
  refine sx_iload_n (pc2 := 9) hX 1 d_Mo_token_8 rfl rfl rfl ?_
  obtain ⟨hc1, h⟩ := h
  refine sx_iast (pc2 := 10) hX (kr_53 hK) (fun _ => rfl) hc1 d_Mo_token_9 rfl ?_
  refine sx_nm (fun σ2 e2 => ?_)
  replace h := h σ2 e2
  refine sx_aload_n (pc2 := 11) hX 0 d_Mo_token_10 rfl rfl rfl ?_
  refine fg_Mo_24 (pc2 := 14) hX (kr_50 hK) d_Mo_token_11 rfl ?_
  refine sx_aload_n (pc2 := 15) hX 0 d_Mo_token_14 rfl rfl rfl ?_
  refine fg_Mo_121 (pc2 := 18) hX (kr_50 hK) d_Mo_token_15 rfl ?_
  refine sx_iload_n (pc2 := 19) hX 2 d_Mo_token_18 rfl rfl rfl ?_
  obtain ⟨hc3, h⟩ := h
  refine sx_iast (pc2 := 20) hX (kr_54 hK) (fun _ => rfl) hc3 d_Mo_token_19 rfl ?_
  refine sx_nm (fun σ4 e4 => ?_)
  replace h := h σ4 e4
  refine sx_aload_n (pc2 := 21) hX 0 d_Mo_token_20 rfl rfl rfl ?_
  refine fg_Mo_27 (pc2 := 24) hX (kr_50 hK) d_Mo_token_21 rfl ?_
  refine sx_aload_n (pc2 := 25) hX 0 d_Mo_token_24 rfl rfl rfl ?_
  refine fg_Mo_121 (pc2 := 28) hX (kr_50 hK) d_Mo_token_25 rfl ?_
  refine sx_iload_n (pc2 := 29) hX 3 d_Mo_token_28 rfl rfl rfl ?_
  obtain ⟨hc5, h⟩ := h
  refine sx_iast (pc2 := 30) hX (kr_55 hK) (fun _ => rfl) hc5 d_Mo_token_29 rfl ?_
  refine sx_nm (fun σ6 e6 => ?_)
  replace h := h σ6 e6
  refine sx_aload_n (pc2 := 31) hX 0 d_Mo_token_30 rfl rfl rfl ?_
  refine fg_Mo_30 (pc2 := 34) hX (kr_50 hK) d_Mo_token_31 rfl ?_
  refine sx_aload_n (pc2 := 35) hX 0 d_Mo_token_34 rfl rfl rfl ?_
  refine fg_Mo_121 (pc2 := 38) hX (kr_50 hK) d_Mo_token_35 rfl ?_
  refine sx_lload (pc2 := 40) hX 4 d_Mo_token_38 rfl rfl ?_
  obtain ⟨hc7, h⟩ := h
  refine sx_last (pc2 := 41) hX (kr_56 hK) (fun n p q => hK.2 56 n p q) (fun _ => rfl) hc7 d_Mo_token_40 rfl ?_
  refine sx_nml (fun τ8 e8 => ?_)
  replace h := h τ8 e8
  refine sx_aload_n (pc2 := 42) hX 0 d_Mo_token_41 rfl rfl rfl ?_
  refine sx_dup (pc2 := 43) hX d_Mo_token_42 rfl rfl ?_
  refine fg_Mo_121 (pc2 := 46) hX (kr_50 hK) d_Mo_token_43 rfl ?_
  refine sx_iconst (v := 1) (pc2 := 47) hX d_Mo_token_46 (by decide) rfl ?_
  refine sx_iadd (pc2 := 48) hX d_Mo_token_47 rfl ?_
  refine fp_Mo_121 (pc2 := 51) hX (kr_50 hK) d_Mo_token_48 rfl ?_
  refine sx_nm (fun σ9 e9 => ?_)
  replace h := h σ9 e9
  exact sx_vret hX hE h d_Mo_token_51
theorem cl_Mo_128 {X : sx_T} {K : sx_K} {cc : ByteArray} {nL : Nat} {ret : Option FieldType} {rm : Room} {l : Launch} {pc pc2 : Nat} {lv : List (Nat × Value)} {st : List Value} {σ : sx_M} {τ : sx_L} {x1 : Int32} {x2 : Int32} {x3 : Int32} {x4 : Int64} {Q : sx_M → sx_L → Prop} (hX : sx_C X K cc nL "SensorTreeModel" ret rm l) (hK : kx_F K) (h : wp_Mo_token x1 x2 x3 x4 σ τ Q)  (hR : rm_Mo_token.frames + 1 ≤ rm.frames ∧ 8 + (6 + 11) + rm_Mo_token.locals ≤ rm.locals) (hst : (st.map fun v => v.category).sum ≤ 8) (hd : decode cc pc = .ok (.invokevirtual 128, 3)) (hpc : pc + 3 = pc2) (kk : ∀ (σ2 : sx_M) (τ2 : sx_L), Q σ2 τ2 → sx_G X K nL pc2 lv (st) (sx_H K σ2 τ2)) : sx_G X K nL pc lv (.long x4 :: .int x3 :: .int x2 :: .int x1 :: .ref (K.2.2.1 50 0 0) :: st) (sx_H K σ τ) :=
  sx_callVv (Q := Q) (As := [.int x1, .int x2, .int x3, .long x4]) hX (c_Mo_token hK x1 x2 x3 x4 σ τ Q  h) (kr_50 hK) rfl rfl lk_373 ls_48 hy_Mo_token lk_371 lk_364 lk_372 ⟨rfl, rfl⟩ hR hst rfl hd hpc kk
def y_Mo_sign : MethodName := ⟨"SensorTreeModel", "sign", "(III)I"⟩
theorem hy_Mo_sign : y_Mo_sign.cls ≠ "java/lang/invoke/MethodHandle" ∧ y_Mo_sign.cls ≠ "java/lang/invoke/VarHandle" ∧ (parseMethodDescriptor y_Mo_sign.desc).map (fun d => d.parameters.length) = some 3 := by decide +kernel
theorem d_Mo_sign_0 : decode prog_13_method_13_code 0 = .ok (.aload_n 0, 1) := by decide +kernel
theorem d_Mo_sign_1 : decode prog_13_method_13_code 1 = .ok (.iload_n 2, 1) := by decide +kernel
theorem d_Mo_sign_2 : decode prog_13_method_13_code 2 = .ok (.bipush 59, 2) := by decide +kernel
theorem d_Mo_sign_4 : decode prog_13_method_13_code 4 = .ok (.if_icmp .ne 7, 3) := by decide +kernel
theorem d_Mo_sign_7 : decode prog_13_method_13_code 7 = .ok (.iconst 4, 1) := by decide +kernel
theorem d_Mo_sign_8 : decode prog_13_method_13_code 8 = .ok (.goto 4, 3) := by decide +kernel
theorem d_Mo_sign_11 : decode prog_13_method_13_code 11 = .ok (.iconst 3, 1) := by decide +kernel
theorem d_Mo_sign_12 : decode prog_13_method_13_code 12 = .ok (.iload_n 1, 1) := by decide +kernel
theorem d_Mo_sign_13 : decode prog_13_method_13_code 13 = .ok (.iconst 0, 1) := by decide +kernel
theorem d_Mo_sign_14 : decode prog_13_method_13_code 14 = .ok (.lconst 0, 1) := by decide +kernel
theorem d_Mo_sign_15 : decode prog_13_method_13_code 15 = .ok (.invokevirtual 128, 3) := by decide +kernel
theorem d_Mo_sign_18 : decode prog_13_method_13_code 18 = .ok (.iconst 1, 1) := by decide +kernel
theorem d_Mo_sign_19 : decode prog_13_method_13_code 19 = .ok (.ireturn, 1) := by decide +kernel
def wp_Mo_sign_b12   (Q : Int32 → sx_M → sx_L → Prop) (v1 : Int32) (w1 : Int32) (σ : sx_M) (τ : sx_L) : Prop := wp_Mo_token w1 v1 (0 : Int32) (0 : Int64) σ τ (fun σ1 τ1 => Q 1 σ1 τ1)
def wp_Mo_sign (x1 : Int32) (x2 : Int32) (x3 : Int32) (σ : sx_M) (τ : sx_L) (Q : Int32 → sx_M → sx_L → Prop) : Prop := if x2 = 59 then (wp_Mo_sign_b12 Q x1 4 σ τ) else (wp_Mo_sign_b12 Q x1 3 σ τ)
abbrev rm_Mo_sign : Room := { frames := 1, cells := 0, slots := 0, locals := 25 }
set_option maxRecDepth 100000 in
set_option maxHeartbeats 4000000 in
theorem g_Mo_sign_b12 {l : Launch} {K : sx_K} {X : sx_T}   {Q : Int32 → sx_M → sx_L → Prop} (hX : sx_C X K prog_13_method_13_code 4 "SensorTreeModel" (some .int) rm_Mo_sign l) (hK : kx_F K) (hE : sx_E X K (sx_Qi K Q))  (v1 : Int32) (w1 : Int32) (σ : sx_M) (τ : sx_L)  (h : wp_Mo_sign_b12 Q  v1 w1 σ τ) : sx_G X K 4 12 [(1, .int v1)] [.int w1, .ref (K.2.2.1 50 0 0)] (sx_H K σ τ) := by
  unfold wp_Mo_sign_b12 at h
  refine sx_iload_n (pc2 := 13) hX 0 d_Mo_sign_12 rfl rfl rfl ?_
  refine sx_iconst (v := 0) (pc2 := 14) hX d_Mo_sign_13 (by decide) rfl ?_
  refine sx_lconst (v := 0) (pc2 := 15) hX d_Mo_sign_14 (by decide) rfl ?_
  refine cl_Mo_128 (pc2 := 18) hX hK h  ⟨Nat.le_of_ble_eq_true rfl, Nat.le_of_ble_eq_true rfl⟩ (Nat.le_of_ble_eq_true rfl) d_Mo_sign_15 rfl (fun σ1 τ1 h => ?_)
  refine sx_iconst (v := 1) (pc2 := 19) hX d_Mo_sign_18 (by decide) rfl ?_
  exact sx_iret hX hE h d_Mo_sign_19
set_option maxRecDepth 100000 in
set_option maxHeartbeats 4000000 in
theorem c_Mo_sign {l : Launch} {K : sx_K} (hK : kx_F K) (x1 : Int32) (x2 : Int32) (x3 : Int32) (σ : sx_M) (τ : sx_L) (Q : Int32 → sx_M → sx_L → Prop)  (h : wp_Mo_sign x1 x2 x3 σ τ Q) : Met l y_Mo_sign (sx_wd y_Mo_sign prog_13_method_13_code 4 (some .int)) rm_Mo_sign (sx_Pc K [.ref (K.2.2.1 50 0 0), .int x1, .int x2, .int x3] σ τ) (sx_Qi K Q) 0 0 (sx_A K) := by
  refine sx_met (by decide) (Nat.le_of_ble_eq_true rfl) (fun X hX hE => ?_)
  replace hX : sx_C X K prog_13_method_13_code 4 "SensorTreeModel" (some .int) rm_Mo_sign l := hX
  show sx_G X K 4 0 [(0, .ref (K.2.2.1 50 0 0)), (1, .int x1), (2, .int x2), (3, .int x3)] [] (sx_H K σ τ)
  unfold wp_Mo_sign at h
  refine sx_aload_n (pc2 := 1) hX 0 d_Mo_sign_0 rfl rfl rfl ?_
  refine sx_iload_n (pc2 := 2) hX 2 d_Mo_sign_1 rfl rfl rfl ?_
  refine sx_bipush (v := 59) (pc2 := 4) hX d_Mo_sign_2 (by decide) rfl ?_
  refine sx_icmp_ne (tgt := 11) (pc2 := 7) hX d_Mo_sign_4 (by decide) rfl (fun hc2 => ?_) (fun hc2 => ?_)
  · replace h := sx_f h hc2
    refine sx_iconst (v := 3) (pc2 := 12) hX d_Mo_sign_11 (by decide) rfl ?_
    refine sx_sub [(1, .int x1)] [1] rfl ?_
    exact g_Mo_sign_b12 hX hK hE   x1 3 _ _ h
  · replace h := sx_t h hc2
    refine sx_iconst (v := 4) (pc2 := 8) hX d_Mo_sign_7 (by decide) rfl ?_
    refine sx_goto (tgt := 12) hX d_Mo_sign_8 (by decide) ?_
    refine sx_sub [(1, .int x1)] [1] rfl ?_
    exact g_Mo_sign_b12 hX hK hE   x1 4 _ _ h
theorem cl_Mo_139 {X : sx_T} {K : sx_K} {cc : ByteArray} {nL : Nat} {ret : Option FieldType} {rm : Room} {l : Launch} {pc pc2 : Nat} {lv : List (Nat × Value)} {st : List Value} {σ : sx_M} {τ : sx_L} {x1 : Int32} {x2 : Int32} {x3 : Int32} {Q : Int32 → sx_M → sx_L → Prop} (hX : sx_C X K cc nL "SensorTreeModel" ret rm l) (hK : kx_F K) (h : wp_Mo_sign x1 x2 x3 σ τ Q)  (hR : rm_Mo_sign.frames + 1 ≤ rm.frames ∧ 8 + (4 + 11) + rm_Mo_sign.locals ≤ rm.locals) (hst : (st.map fun v => v.category).sum ≤ 8) (hd : decode cc pc = .ok (.invokevirtual 139, 3)) (hpc : pc + 3 = pc2) (kk : ∀ (r : Int32) (σ2 : sx_M) (τ2 : sx_L), Q r σ2 τ2 → sx_G X K nL pc2 lv (.int r :: st) (sx_H K σ2 τ2)) : sx_G X K nL pc lv (.int x3 :: .int x2 :: .int x1 :: .ref (K.2.2.1 50 0 0) :: st) (sx_H K σ τ) :=
  sx_callVi (Q := Q) (As := [.int x1, .int x2, .int x3]) hX (c_Mo_sign hK x1 x2 x3 σ τ Q  h) (kr_50 hK) rfl rfl lk_385 ls_49 hy_Mo_sign lk_383 lk_364 lk_384 ⟨rfl, rfl⟩ hR hst rfl hd hpc kk
def y_Mo_parts : MethodName := ⟨"SensorTreeModel", "parts", "()V"⟩
theorem hy_Mo_parts : y_Mo_parts.cls ≠ "java/lang/invoke/MethodHandle" ∧ y_Mo_parts.cls ≠ "java/lang/invoke/VarHandle" ∧ (parseMethodDescriptor y_Mo_parts.desc).map (fun d => d.parameters.length) = some 0 := by decide +kernel
theorem d_Mo_parts_0 : decode prog_13_method_12_code 0 = .ok (.aload_n 0, 1) := by decide +kernel
theorem d_Mo_parts_1 : decode prog_13_method_12_code 1 = .ok (.iconst 0, 1) := by decide +kernel
theorem d_Mo_parts_2 : decode prog_13_method_12_code 2 = .ok (.putfield 121, 3) := by decide +kernel
theorem d_Mo_parts_5 : decode prog_13_method_12_code 5 = .ok (.iconst 0, 1) := by decide +kernel
theorem d_Mo_parts_6 : decode prog_13_method_12_code 6 = .ok (.istore_n 1, 1) := by decide +kernel
theorem d_Mo_parts_7 : decode prog_13_method_12_code 7 = .ok (.aload_n 0, 1) := by decide +kernel
theorem d_Mo_parts_8 : decode prog_13_method_12_code 8 = .ok (.getfield 121, 3) := by decide +kernel
theorem d_Mo_parts_11 : decode prog_13_method_12_code 11 = .ok (.sipush 400, 3) := by decide +kernel
theorem d_Mo_parts_14 : decode prog_13_method_12_code 14 = .ok (.if_icmp .gt 280, 3) := by decide +kernel
theorem d_Mo_parts_17 : decode prog_13_method_12_code 17 = .ok (.aload_n 0, 1) := by decide +kernel
theorem d_Mo_parts_18 : decode prog_13_method_12_code 18 = .ok (.iload_n 1, 1) := by decide +kernel
theorem d_Mo_parts_19 : decode prog_13_method_12_code 19 = .ok (.invokevirtual 124, 3) := by decide +kernel
theorem d_Mo_parts_22 : decode prog_13_method_12_code 22 = .ok (.istore_n 2, 1) := by decide +kernel
theorem d_Mo_parts_23 : decode prog_13_method_12_code 23 = .ok (.iload_n 1, 1) := by decide +kernel
theorem d_Mo_parts_24 : decode prog_13_method_12_code 24 = .ok (.aload_n 0, 1) := by decide +kernel
theorem d_Mo_parts_25 : decode prog_13_method_12_code 25 = .ok (.getfield 112, 3) := by decide +kernel
theorem d_Mo_parts_28 : decode prog_13_method_12_code 28 = .ok (.if_icmp .lt 15, 3) := by decide +kernel
theorem d_Mo_parts_31 : decode prog_13_method_12_code 31 = .ok (.aload_n 0, 1) := by decide +kernel
theorem d_Mo_parts_32 : decode prog_13_method_12_code 32 = .ok (.iconst 0, 1) := by decide +kernel
theorem d_Mo_parts_33 : decode prog_13_method_12_code 33 = .ok (.aload_n 0, 1) := by decide +kernel
theorem d_Mo_parts_34 : decode prog_13_method_12_code 34 = .ok (.getfield 112, 3) := by decide +kernel
theorem d_Mo_parts_37 : decode prog_13_method_12_code 37 = .ok (.iconst 0, 1) := by decide +kernel
theorem d_Mo_parts_38 : decode prog_13_method_12_code 38 = .ok (.lconst 0, 1) := by decide +kernel
theorem d_Mo_parts_39 : decode prog_13_method_12_code 39 = .ok (.invokevirtual 128, 3) := by decide +kernel
theorem d_Mo_parts_42 : decode prog_13_method_12_code 42 = .ok (.return_, 1) := by decide +kernel
theorem d_Mo_parts_43 : decode prog_13_method_12_code 43 = .ok (.iload_n 2, 1) := by decide +kernel
theorem d_Mo_parts_44 : decode prog_13_method_12_code 44 = .ok (.bipush 9, 2) := by decide +kernel
theorem d_Mo_parts_46 : decode prog_13_method_12_code 46 = .ok (.if_icmp .eq 21, 3) := by decide +kernel
theorem d_Mo_parts_49 : decode prog_13_method_12_code 49 = .ok (.iload_n 2, 1) := by decide +kernel
theorem d_Mo_parts_50 : decode prog_13_method_12_code 50 = .ok (.bipush 10, 2) := by decide +kernel
theorem d_Mo_parts_52 : decode prog_13_method_12_code 52 = .ok (.if_icmp .eq 15, 3) := by decide +kernel
theorem d_Mo_parts_55 : decode prog_13_method_12_code 55 = .ok (.iload_n 2, 1) := by decide +kernel
theorem d_Mo_parts_56 : decode prog_13_method_12_code 56 = .ok (.bipush 13, 2) := by decide +kernel
theorem d_Mo_parts_58 : decode prog_13_method_12_code 58 = .ok (.if_icmp .eq 9, 3) := by decide +kernel
theorem d_Mo_parts_61 : decode prog_13_method_12_code 61 = .ok (.iload_n 2, 1) := by decide +kernel
theorem d_Mo_parts_62 : decode prog_13_method_12_code 62 = .ok (.bipush 32, 2) := by decide +kernel
theorem d_Mo_parts_64 : decode prog_13_method_12_code 64 = .ok (.if_icmp .ne 9, 3) := by decide +kernel
theorem d_Mo_parts_67 : decode prog_13_method_12_code 67 = .ok (.iinc 1 1, 3) := by decide +kernel
theorem d_Mo_parts_70 : decode prog_13_method_12_code 70 = .ok (.goto 221, 3) := by decide +kernel
theorem d_Mo_parts_73 : decode prog_13_method_12_code 73 = .ok (.iload_n 2, 1) := by decide +kernel
theorem d_Mo_parts_74 : decode prog_13_method_12_code 74 = .ok (.invokestatic 132, 3) := by decide +kernel
theorem d_Mo_parts_77 : decode prog_13_method_12_code 77 = .ok (.ifCond .eq 119, 3) := by decide +kernel
theorem d_Mo_parts_80 : decode prog_13_method_12_code 80 = .ok (.iconst 0, 1) := by decide +kernel
theorem d_Mo_parts_81 : decode prog_13_method_12_code 81 = .ok (.istore_n 3, 1) := by decide +kernel
theorem d_Mo_parts_82 : decode prog_13_method_12_code 82 = .ok (.lconst 0, 1) := by decide +kernel
theorem d_Mo_parts_83 : decode prog_13_method_12_code 83 = .ok (.lstore 4, 2) := by decide +kernel
theorem d_Mo_parts_85 : decode prog_13_method_12_code 85 = .ok (.aload_n 0, 1) := by decide +kernel
theorem d_Mo_parts_86 : decode prog_13_method_12_code 86 = .ok (.iload_n 1, 1) := by decide +kernel
theorem d_Mo_parts_87 : decode prog_13_method_12_code 87 = .ok (.iload_n 3, 1) := by decide +kernel
theorem d_Mo_parts_88 : decode prog_13_method_12_code 88 = .ok (.iadd, 1) := by decide +kernel
theorem d_Mo_parts_89 : decode prog_13_method_12_code 89 = .ok (.invokevirtual 124, 3) := by decide +kernel
theorem d_Mo_parts_92 : decode prog_13_method_12_code 92 = .ok (.invokestatic 132, 3) := by decide +kernel
theorem d_Mo_parts_95 : decode prog_13_method_12_code 95 = .ok (.ifCond .eq 29, 3) := by decide +kernel
theorem d_Mo_parts_98 : decode prog_13_method_12_code 98 = .ok (.iload_n 3, 1) := by decide +kernel
theorem d_Mo_parts_99 : decode prog_13_method_12_code 99 = .ok (.bipush 8, 2) := by decide +kernel
theorem d_Mo_parts_101 : decode prog_13_method_12_code 101 = .ok (.if_icmp .ge 17, 3) := by decide +kernel
theorem d_Mo_parts_104 : decode prog_13_method_12_code 104 = .ok (.lload 4, 2) := by decide +kernel
theorem d_Mo_parts_106 : decode prog_13_method_12_code 106 = .ok (.aload_n 0, 1) := by decide +kernel
theorem d_Mo_parts_107 : decode prog_13_method_12_code 107 = .ok (.iload_n 1, 1) := by decide +kernel
theorem d_Mo_parts_108 : decode prog_13_method_12_code 108 = .ok (.iload_n 3, 1) := by decide +kernel
theorem d_Mo_parts_109 : decode prog_13_method_12_code 109 = .ok (.iadd, 1) := by decide +kernel
theorem d_Mo_parts_110 : decode prog_13_method_12_code 110 = .ok (.invokevirtual 124, 3) := by decide +kernel
theorem d_Mo_parts_113 : decode prog_13_method_12_code 113 = .ok (.invokestatic 117, 3) := by decide +kernel
theorem d_Mo_parts_116 : decode prog_13_method_12_code 116 = .ok (.lstore 4, 2) := by decide +kernel
theorem d_Mo_parts_118 : decode prog_13_method_12_code 118 = .ok (.iinc 3 1, 3) := by decide +kernel
theorem d_Mo_parts_121 : decode prog_13_method_12_code 121 = .ok (.goto (-36), 3) := by decide +kernel
theorem d_Mo_parts_124 : decode prog_13_method_12_code 124 = .ok (.iload_n 3, 1) := by decide +kernel
theorem d_Mo_parts_125 : decode prog_13_method_12_code 125 = .ok (.bipush 8, 2) := by decide +kernel
theorem d_Mo_parts_127 : decode prog_13_method_12_code 127 = .ok (.if_icmp .le 7, 3) := by decide +kernel
theorem d_Mo_parts_130 : decode prog_13_method_12_code 130 = .ok (.iconst 3, 1) := by decide +kernel
theorem d_Mo_parts_131 : decode prog_13_method_12_code 131 = .ok (.goto 4, 3) := by decide +kernel
theorem d_Mo_parts_134 : decode prog_13_method_12_code 134 = .ok (.iconst 1, 1) := by decide +kernel
theorem d_Mo_parts_135 : decode prog_13_method_12_code 135 = .ok (.istore 6, 2) := by decide +kernel
theorem d_Mo_parts_137 : decode prog_13_method_12_code 137 = .ok (.iload_n 3, 1) := by decide +kernel
theorem d_Mo_parts_138 : decode prog_13_method_12_code 138 = .ok (.bipush 8, 2) := by decide +kernel
theorem d_Mo_parts_140 : decode prog_13_method_12_code 140 = .ok (.if_icmp .gt 39, 3) := by decide +kernel
theorem d_Mo_parts_143 : decode prog_13_method_12_code 143 = .ok (.iconst 0, 1) := by decide +kernel
theorem d_Mo_parts_144 : decode prog_13_method_12_code 144 = .ok (.istore 7, 2) := by decide +kernel
theorem d_Mo_parts_146 : decode prog_13_method_12_code 146 = .ok (.iload 7, 2) := by decide +kernel
theorem d_Mo_parts_148 : decode prog_13_method_12_code 148 = .ok (.bipush 14, 2) := by decide +kernel
theorem d_Mo_parts_150 : decode prog_13_method_12_code 150 = .ok (.if_icmp .ge 29, 3) := by decide +kernel
theorem d_Mo_parts_153 : decode prog_13_method_12_code 153 = .ok (.aload_n 0, 1) := by decide +kernel
theorem d_Mo_parts_154 : decode prog_13_method_12_code 154 = .ok (.getfield 34, 3) := by decide +kernel
theorem d_Mo_parts_157 : decode prog_13_method_12_code 157 = .ok (.iload 7, 2) := by decide +kernel
theorem d_Mo_parts_159 : decode prog_13_method_12_code 159 = .ok (.laload, 1) := by decide +kernel
theorem d_Mo_parts_160 : decode prog_13_method_12_code 160 = .ok (.lload 4, 2) := by decide +kernel
theorem d_Mo_parts_162 : decode prog_13_method_12_code 162 = .ok (.lcmp, 1) := by decide +kernel
theorem d_Mo_parts_163 : decode prog_13_method_12_code 163 = .ok (.ifCond .ne 10, 3) := by decide +kernel
theorem d_Mo_parts_166 : decode prog_13_method_12_code 166 = .ok (.bipush 20, 2) := by decide +kernel
theorem d_Mo_parts_168 : decode prog_13_method_12_code 168 = .ok (.iload 7, 2) := by decide +kernel
theorem d_Mo_parts_170 : decode prog_13_method_12_code 170 = .ok (.iadd, 1) := by decide +kernel
theorem d_Mo_parts_171 : decode prog_13_method_12_code 171 = .ok (.istore 6, 2) := by decide +kernel
theorem d_Mo_parts_173 : decode prog_13_method_12_code 173 = .ok (.iinc 7 1, 3) := by decide +kernel
theorem d_Mo_parts_176 : decode prog_13_method_12_code 176 = .ok (.goto (-30), 3) := by decide +kernel
theorem d_Mo_parts_179 : decode prog_13_method_12_code 179 = .ok (.aload_n 0, 1) := by decide +kernel
theorem d_Mo_parts_180 : decode prog_13_method_12_code 180 = .ok (.iload 6, 2) := by decide +kernel
theorem d_Mo_parts_182 : decode prog_13_method_12_code 182 = .ok (.iload_n 1, 1) := by decide +kernel
theorem d_Mo_parts_183 : decode prog_13_method_12_code 183 = .ok (.iconst 0, 1) := by decide +kernel
theorem d_Mo_parts_184 : decode prog_13_method_12_code 184 = .ok (.lload 4, 2) := by decide +kernel
theorem d_Mo_parts_186 : decode prog_13_method_12_code 186 = .ok (.invokevirtual 128, 3) := by decide +kernel
theorem d_Mo_parts_189 : decode prog_13_method_12_code 189 = .ok (.iload_n 1, 1) := by decide +kernel
theorem d_Mo_parts_190 : decode prog_13_method_12_code 190 = .ok (.iload_n 3, 1) := by decide +kernel
theorem d_Mo_parts_191 : decode prog_13_method_12_code 191 = .ok (.iadd, 1) := by decide +kernel
theorem d_Mo_parts_192 : decode prog_13_method_12_code 192 = .ok (.istore_n 1, 1) := by decide +kernel
theorem d_Mo_parts_193 : decode prog_13_method_12_code 193 = .ok (.goto 98, 3) := by decide +kernel
theorem d_Mo_parts_196 : decode prog_13_method_12_code 196 = .ok (.iload_n 2, 1) := by decide +kernel
theorem d_Mo_parts_197 : decode prog_13_method_12_code 197 = .ok (.invokestatic 136, 3) := by decide +kernel
theorem d_Mo_parts_200 : decode prog_13_method_12_code 200 = .ok (.ifCond .eq 75, 3) := by decide +kernel
theorem d_Mo_parts_203 : decode prog_13_method_12_code 203 = .ok (.iconst 0, 1) := by decide +kernel
theorem d_Mo_parts_204 : decode prog_13_method_12_code 204 = .ok (.istore_n 3, 1) := by decide +kernel
theorem d_Mo_parts_205 : decode prog_13_method_12_code 205 = .ok (.iconst 0, 1) := by decide +kernel
theorem d_Mo_parts_206 : decode prog_13_method_12_code 206 = .ok (.istore 4, 2) := by decide +kernel
theorem d_Mo_parts_208 : decode prog_13_method_12_code 208 = .ok (.aload_n 0, 1) := by decide +kernel
theorem d_Mo_parts_209 : decode prog_13_method_12_code 209 = .ok (.iload_n 1, 1) := by decide +kernel
theorem d_Mo_parts_210 : decode prog_13_method_12_code 210 = .ok (.iload_n 3, 1) := by decide +kernel
theorem d_Mo_parts_211 : decode prog_13_method_12_code 211 = .ok (.iadd, 1) := by decide +kernel
theorem d_Mo_parts_212 : decode prog_13_method_12_code 212 = .ok (.invokevirtual 124, 3) := by decide +kernel
theorem d_Mo_parts_215 : decode prog_13_method_12_code 215 = .ok (.invokestatic 136, 3) := by decide +kernel
theorem d_Mo_parts_218 : decode prog_13_method_12_code 218 = .ok (.ifCond .eq 32, 3) := by decide +kernel
theorem d_Mo_parts_221 : decode prog_13_method_12_code 221 = .ok (.iload_n 3, 1) := by decide +kernel
theorem d_Mo_parts_222 : decode prog_13_method_12_code 222 = .ok (.iconst 4, 1) := by decide +kernel
theorem d_Mo_parts_223 : decode prog_13_method_12_code 223 = .ok (.if_icmp .ge 21, 3) := by decide +kernel
theorem d_Mo_parts_226 : decode prog_13_method_12_code 226 = .ok (.bipush 10, 2) := by decide +kernel
theorem d_Mo_parts_228 : decode prog_13_method_12_code 228 = .ok (.iload 4, 2) := by decide +kernel
theorem d_Mo_parts_230 : decode prog_13_method_12_code 230 = .ok (.imul, 1) := by decide +kernel
theorem d_Mo_parts_231 : decode prog_13_method_12_code 231 = .ok (.aload_n 0, 1) := by decide +kernel
theorem d_Mo_parts_232 : decode prog_13_method_12_code 232 = .ok (.iload_n 1, 1) := by decide +kernel
theorem d_Mo_parts_233 : decode prog_13_method_12_code 233 = .ok (.iload_n 3, 1) := by decide +kernel
theorem d_Mo_parts_234 : decode prog_13_method_12_code 234 = .ok (.iadd, 1) := by decide +kernel
theorem d_Mo_parts_235 : decode prog_13_method_12_code 235 = .ok (.invokevirtual 124, 3) := by decide +kernel
theorem d_Mo_parts_238 : decode prog_13_method_12_code 238 = .ok (.iadd, 1) := by decide +kernel
theorem d_Mo_parts_239 : decode prog_13_method_12_code 239 = .ok (.bipush 48, 2) := by decide +kernel
theorem d_Mo_parts_241 : decode prog_13_method_12_code 241 = .ok (.isub, 1) := by decide +kernel
theorem d_Mo_parts_242 : decode prog_13_method_12_code 242 = .ok (.istore 4, 2) := by decide +kernel
theorem d_Mo_parts_244 : decode prog_13_method_12_code 244 = .ok (.iinc 3 1, 3) := by decide +kernel
theorem d_Mo_parts_247 : decode prog_13_method_12_code 247 = .ok (.goto (-39), 3) := by decide +kernel
theorem d_Mo_parts_250 : decode prog_13_method_12_code 250 = .ok (.aload_n 0, 1) := by decide +kernel
theorem d_Mo_parts_251 : decode prog_13_method_12_code 251 = .ok (.iload_n 3, 1) := by decide +kernel
theorem d_Mo_parts_252 : decode prog_13_method_12_code 252 = .ok (.iconst 4, 1) := by decide +kernel
theorem d_Mo_parts_253 : decode prog_13_method_12_code 253 = .ok (.if_icmp .le 7, 3) := by decide +kernel
theorem d_Mo_parts_256 : decode prog_13_method_12_code 256 = .ok (.iconst 3, 1) := by decide +kernel
theorem d_Mo_parts_257 : decode prog_13_method_12_code 257 = .ok (.goto 4, 3) := by decide +kernel
theorem d_Mo_parts_260 : decode prog_13_method_12_code 260 = .ok (.iconst 2, 1) := by decide +kernel
theorem d_Mo_parts_261 : decode prog_13_method_12_code 261 = .ok (.iload_n 1, 1) := by decide +kernel
theorem d_Mo_parts_262 : decode prog_13_method_12_code 262 = .ok (.iload 4, 2) := by decide +kernel
theorem d_Mo_parts_264 : decode prog_13_method_12_code 264 = .ok (.lconst 0, 1) := by decide +kernel
theorem d_Mo_parts_265 : decode prog_13_method_12_code 265 = .ok (.invokevirtual 128, 3) := by decide +kernel
theorem d_Mo_parts_268 : decode prog_13_method_12_code 268 = .ok (.iload_n 1, 1) := by decide +kernel
theorem d_Mo_parts_269 : decode prog_13_method_12_code 269 = .ok (.iload_n 3, 1) := by decide +kernel
theorem d_Mo_parts_270 : decode prog_13_method_12_code 270 = .ok (.iadd, 1) := by decide +kernel
theorem d_Mo_parts_271 : decode prog_13_method_12_code 271 = .ok (.istore_n 1, 1) := by decide +kernel
theorem d_Mo_parts_272 : decode prog_13_method_12_code 272 = .ok (.goto 19, 3) := by decide +kernel
theorem d_Mo_parts_275 : decode prog_13_method_12_code 275 = .ok (.iload_n 1, 1) := by decide +kernel
theorem d_Mo_parts_276 : decode prog_13_method_12_code 276 = .ok (.aload_n 0, 1) := by decide +kernel
theorem d_Mo_parts_277 : decode prog_13_method_12_code 277 = .ok (.iload_n 1, 1) := by decide +kernel
theorem d_Mo_parts_278 : decode prog_13_method_12_code 278 = .ok (.iload_n 2, 1) := by decide +kernel
theorem d_Mo_parts_279 : decode prog_13_method_12_code 279 = .ok (.aload_n 0, 1) := by decide +kernel
theorem d_Mo_parts_280 : decode prog_13_method_12_code 280 = .ok (.iload_n 1, 1) := by decide +kernel
theorem d_Mo_parts_281 : decode prog_13_method_12_code 281 = .ok (.iconst 1, 1) := by decide +kernel
theorem d_Mo_parts_282 : decode prog_13_method_12_code 282 = .ok (.iadd, 1) := by decide +kernel
theorem d_Mo_parts_283 : decode prog_13_method_12_code 283 = .ok (.invokevirtual 124, 3) := by decide +kernel
theorem d_Mo_parts_286 : decode prog_13_method_12_code 286 = .ok (.invokevirtual 139, 3) := by decide +kernel
theorem d_Mo_parts_289 : decode prog_13_method_12_code 289 = .ok (.iadd, 1) := by decide +kernel
theorem d_Mo_parts_290 : decode prog_13_method_12_code 290 = .ok (.istore_n 1, 1) := by decide +kernel
theorem d_Mo_parts_291 : decode prog_13_method_12_code 291 = .ok (.goto (-284), 3) := by decide +kernel
theorem d_Mo_parts_294 : decode prog_13_method_12_code 294 = .ok (.return_, 1) := by decide +kernel
def wp_Mo_parts_b291  (k7 : Int32 → sx_M → sx_L → Prop) (Q : sx_M → sx_L → Prop) (v1 : Int32) (σ : sx_M) (τ : sx_L) : Prop := k7 v1 σ τ
def wp_Mo_parts_b261  (k7 : Int32 → sx_M → sx_L → Prop) (Q : sx_M → sx_L → Prop) (v1 : Int32) (v3 : Int32) (v4 : Int32) (w1 : Int32) (σ : sx_M) (τ : sx_L) : Prop := wp_Mo_token w1 v1 v4 (0 : Int64) σ τ (fun σ1 τ1 => wp_Mo_parts_b291 k7 Q (v1 + v3) σ1 τ1)
def wp_Mo_parts_b244  (k7 : Int32 → sx_M → sx_L → Prop) (k208 : Int32 → Int32 → Int32 → sx_M → sx_L → Prop) (Q : sx_M → sx_L → Prop) (v1 : Int32) (v3 : Int32) (v4 : Int32) (σ : sx_M) (τ : sx_L) : Prop := k208 v1 (v3 + 1) v4 σ τ
def wp_Mo_parts_b208  (k7 : Int32 → sx_M → sx_L → Prop) (Q : sx_M → sx_L → Prop) : Nat → Int32 → Int32 → Int32 → sx_M → sx_L → Prop
  | 0, _, _, _, _, _ => False
  | f + 1, v1, v3, v4, σ, τ => wp_Mo_byteAt (v1 + v3) σ τ (fun r2 σ2 τ2 => wp_Mo_isDigit r2 σ2 τ2 (fun r3 σ3 τ3 => if r3 = 0 then (if v3 ≤ 4 then (wp_Mo_parts_b261 k7 Q v1 v3 v4 2 σ3 τ3) else (wp_Mo_parts_b261 k7 Q v1 v3 v4 3 σ3 τ3)) else (if 4 ≤ v3 then (wp_Mo_parts_b244 k7 (wp_Mo_parts_b208 k7 Q f) Q v1 v3 v4 σ3 τ3) else (wp_Mo_byteAt (v1 + v3) σ3 τ3 (fun r7 σ7 τ7 => wp_Mo_parts_b244 k7 (wp_Mo_parts_b208 k7 Q f) Q v1 v3 (((10 * v4) + r7) - 48) σ7 τ7)))))
def wp_Mo_parts_b179  (k7 : Int32 → sx_M → sx_L → Prop) (Q : sx_M → sx_L → Prop) (v1 : Int32) (v3 : Int32) (v4 : Int64) (v6 : Int32) (σ : sx_M) (τ : sx_L) : Prop := wp_Mo_token v6 v1 (0 : Int32) v4 σ τ (fun σ8 τ8 => wp_Mo_parts_b291 k7 Q (v1 + v3) σ8 τ8)
def wp_Mo_parts_b173  (k7 : Int32 → sx_M → sx_L → Prop) (k146 : Int32 → Int32 → Int64 → Int32 → Int32 → sx_M → sx_L → Prop) (Q : sx_M → sx_L → Prop) (v1 : Int32) (v3 : Int32) (v4 : Int64) (v6 : Int32) (v7 : Int32) (σ : sx_M) (τ : sx_L) : Prop := k146 v1 v3 v4 v6 (v7 + 1) σ τ
def wp_Mo_parts_b146  (k7 : Int32 → sx_M → sx_L → Prop) (Q : sx_M → sx_L → Prop) : Nat → Int32 → Int32 → Int64 → Int32 → Int32 → sx_M → sx_L → Prop
  | 0, _, _, _, _, _, _, _ => False
  | f + 1, v1, v3, v4, v6, v7, σ, τ => if 14 ≤ v7 then (wp_Mo_parts_b179 k7 Q v1 v3 v4 v6 σ τ) else (vp_in v7 14 ∧ (if lg_cmp (τ 57 v7.toNatClampNeg) v4 = 0 then (wp_Mo_parts_b173 k7 (wp_Mo_parts_b146 k7 Q f) Q v1 v3 v4 (20 + v7) v7 σ τ) else (wp_Mo_parts_b173 k7 (wp_Mo_parts_b146 k7 Q f) Q v1 v3 v4 v6 v7 σ τ)))
def wp_Mo_parts_b135  (k7 : Int32 → sx_M → sx_L → Prop) (Q : sx_M → sx_L → Prop) (v1 : Int32) (v3 : Int32) (v4 : Int64) (w0 : Int32) (σ : sx_M) (τ : sx_L) : Prop := if 8 < v3 then (wp_Mo_parts_b179 k7 Q v1 v3 v4 w0 σ τ) else (∃ f146, wp_Mo_parts_b146 k7 Q f146 v1 v3 v4 w0 0 σ τ)
def wp_Mo_parts_b118  (k7 : Int32 → sx_M → sx_L → Prop) (k85 : Int32 → Int32 → Int64 → sx_M → sx_L → Prop) (Q : sx_M → sx_L → Prop) (v1 : Int32) (v3 : Int32) (v4 : Int64) (σ : sx_M) (τ : sx_L) : Prop := k85 v1 (v3 + 1) v4 σ τ
def wp_Mo_parts_b85  (k7 : Int32 → sx_M → sx_L → Prop) (Q : sx_M → sx_L → Prop) : Nat → Int32 → Int32 → Int64 → sx_M → sx_L → Prop
  | 0, _, _, _, _, _ => False
  | f + 1, v1, v3, v4, σ, τ => wp_Mo_byteAt (v1 + v3) σ τ (fun r13 σ13 τ13 => wp_Mo_isLetter r13 σ13 τ13 (fun r14 σ14 τ14 => if r14 = 0 then (if v3 ≤ 8 then (wp_Mo_parts_b135 k7 Q v1 v3 v4 1 σ14 τ14) else (wp_Mo_parts_b135 k7 Q v1 v3 v4 3 σ14 τ14)) else (if 8 ≤ v3 then (wp_Mo_parts_b118 k7 (wp_Mo_parts_b85 k7 Q f) Q v1 v3 v4 σ14 τ14) else (wp_Mo_byteAt (v1 + v3) σ14 τ14 (fun r18 σ18 τ18 => wp_Mo_appends v4 r18 σ18 τ18 (fun r19 σ19 τ19 => wp_Mo_parts_b118 k7 (wp_Mo_parts_b85 k7 Q f) Q v1 v3 r19 σ19 τ19))))))
def wp_Mo_parts_b67  (k7 : Int32 → sx_M → sx_L → Prop) (Q : sx_M → sx_L → Prop) (v1 : Int32) (σ : sx_M) (τ : sx_L) : Prop := wp_Mo_parts_b291 k7 Q (v1 + 1) σ τ
def wp_Mo_parts_b7   (Q : sx_M → sx_L → Prop) : Nat → Int32 → sx_M → sx_L → Prop
  | 0, _, _, _ => False
  | f + 1, v1, σ, τ => if 400 < σ 50 0 0 10 then (Q σ τ) else (wp_Mo_byteAt v1 σ τ (fun r21 σ21 τ21 => if v1 < σ21 50 0 0 4 then (if r21 = 9 then (wp_Mo_parts_b67 (wp_Mo_parts_b7 Q f) Q v1 σ21 τ21) else (if r21 = 10 then (wp_Mo_parts_b67 (wp_Mo_parts_b7 Q f) Q v1 σ21 τ21) else (if r21 = 13 then (wp_Mo_parts_b67 (wp_Mo_parts_b7 Q f) Q v1 σ21 τ21) else (if r21 = 32 then (wp_Mo_parts_b67 (wp_Mo_parts_b7 Q f) Q v1 σ21 τ21) else (wp_Mo_isLetter r21 σ21 τ21 (fun r27 σ27 τ27 => if r27 = 0 then (wp_Mo_isDigit r21 σ27 τ27 (fun r29 σ29 τ29 => if r29 = 0 then (wp_Mo_byteAt (v1 + 1) σ29 τ29 (fun r31 σ31 τ31 => wp_Mo_sign v1 r21 r31 σ31 τ31 (fun r32 σ32 τ32 => wp_Mo_parts_b291 (wp_Mo_parts_b7 Q f) Q (v1 + r32) σ32 τ32))) else (∃ f208, wp_Mo_parts_b208 (wp_Mo_parts_b7 Q f) Q f208 v1 0 0 σ29 τ29))) else (∃ f85, wp_Mo_parts_b85 (wp_Mo_parts_b7 Q f) Q f85 v1 0 0 σ27 τ27))))))) else (wp_Mo_token (0 : Int32) (σ21 50 0 0 4) (0 : Int32) (0 : Int64) σ21 τ21 (fun σ33 τ33 => Q σ33 τ33))))
def wp_Mo_parts  (σ : sx_M) (τ : sx_L) (Q : sx_M → sx_L → Prop) : Prop := ∀ σ34 : sx_M, σ34 = sx_u σ 50 0 0 10 0 → (∃ f7, wp_Mo_parts_b7 Q f7 0 σ34 τ)
abbrev rm_Mo_parts : Room := { frames := 2, cells := 0, slots := 0, locals := 48 }
set_option maxRecDepth 100000 in
set_option maxHeartbeats 4000000 in
theorem g_Mo_parts_b291 {l : Launch} {K : sx_K} {X : sx_T}  {k7 : Int32 → sx_M → sx_L → Prop} {Q : sx_M → sx_L → Prop} (hX : sx_C X K prog_13_method_12_code 8 "SensorTreeModel" none rm_Mo_parts l) (hK : kx_F K) (hE : sx_E X K (sx_Qv K Q))  (hk7 : ∀ (v1 : Int32) (σ : sx_M) (τ : sx_L) , k7 v1 σ τ → sx_G X K 8 7 [(0, .ref (K.2.2.1 50 0 0)), (1, .int v1)] [] (sx_H K σ τ)) (v1 : Int32) (σ : sx_M) (τ : sx_L)  (h : wp_Mo_parts_b291 k7 Q  v1 σ τ) : sx_G X K 8 291 [(0, .ref (K.2.2.1 50 0 0)), (1, .int v1)] [] (sx_H K σ τ) := by
  unfold wp_Mo_parts_b291 at h
  refine sx_goto (tgt := 7) hX d_Mo_parts_291 (by decide) ?_
  exact hk7 v1 _ _ h
set_option maxRecDepth 100000 in
set_option maxHeartbeats 4000000 in
theorem g_Mo_parts_b261 {l : Launch} {K : sx_K} {X : sx_T}  {k7 : Int32 → sx_M → sx_L → Prop} {Q : sx_M → sx_L → Prop} (hX : sx_C X K prog_13_method_12_code 8 "SensorTreeModel" none rm_Mo_parts l) (hK : kx_F K) (hE : sx_E X K (sx_Qv K Q))  (hk7 : ∀ (v1 : Int32) (σ : sx_M) (τ : sx_L) , k7 v1 σ τ → sx_G X K 8 7 [(0, .ref (K.2.2.1 50 0 0)), (1, .int v1)] [] (sx_H K σ τ)) (v1 : Int32) (v3 : Int32) (v4 : Int32) (w1 : Int32) (σ : sx_M) (τ : sx_L)  (h : wp_Mo_parts_b261 k7 Q  v1 v3 v4 w1 σ τ) : sx_G X K 8 261 [(0, .ref (K.2.2.1 50 0 0)), (1, .int v1), (3, .int v3), (4, .int v4)] [.int w1, .ref (K.2.2.1 50 0 0)] (sx_H K σ τ) := by
  unfold wp_Mo_parts_b261 at h
  refine sx_iload_n (pc2 := 262) hX 1 d_Mo_parts_261 rfl rfl rfl ?_
  refine sx_iload (pc2 := 264) hX 3 d_Mo_parts_262 rfl rfl ?_
  refine sx_lconst (v := 0) (pc2 := 265) hX d_Mo_parts_264 (by decide) rfl ?_
  refine cl_Mo_128 (pc2 := 268) hX hK h  ⟨Nat.le_of_ble_eq_true rfl, Nat.le_of_ble_eq_true rfl⟩ (Nat.le_of_ble_eq_true rfl) d_Mo_parts_265 rfl (fun σ1 τ1 h => ?_)
  refine sx_iload_n (pc2 := 269) hX 1 d_Mo_parts_268 rfl rfl rfl ?_
  refine sx_iload_n (pc2 := 270) hX 2 d_Mo_parts_269 rfl rfl rfl ?_
  refine sx_iadd (pc2 := 271) hX d_Mo_parts_270 rfl ?_
  refine sx_istore_n (pc2 := 272) hX _ [(0, .ref (K.2.2.1 50 0 0)), (1, .int (v1 + v3)), (3, .int v3), (4, .int v4)] [1, 0, 2, 3] d_Mo_parts_271 rfl (by decide) rfl rfl rfl ?_
  refine sx_goto (tgt := 291) hX d_Mo_parts_272 (by decide) ?_
  refine sx_sub [(0, .ref (K.2.2.1 50 0 0)), (1, .int (v1 + v3))] [0, 1] rfl ?_
  exact g_Mo_parts_b291 hX hK hE  hk7 (v1 + v3) _ _ h
set_option maxRecDepth 100000 in
set_option maxHeartbeats 4000000 in
theorem g_Mo_parts_b244 {l : Launch} {K : sx_K} {X : sx_T}  {k7 : Int32 → sx_M → sx_L → Prop} {k208 : Int32 → Int32 → Int32 → sx_M → sx_L → Prop} {Q : sx_M → sx_L → Prop} (hX : sx_C X K prog_13_method_12_code 8 "SensorTreeModel" none rm_Mo_parts l) (hK : kx_F K) (hE : sx_E X K (sx_Qv K Q))  (hk7 : ∀ (v1 : Int32) (σ : sx_M) (τ : sx_L) , k7 v1 σ τ → sx_G X K 8 7 [(0, .ref (K.2.2.1 50 0 0)), (1, .int v1)] [] (sx_H K σ τ)) (hk208 : ∀ (v1 : Int32) (v3 : Int32) (v4 : Int32) (σ : sx_M) (τ : sx_L) , k208 v1 v3 v4 σ τ → sx_G X K 8 208 [(0, .ref (K.2.2.1 50 0 0)), (1, .int v1), (3, .int v3), (4, .int v4)] [] (sx_H K σ τ)) (v1 : Int32) (v3 : Int32) (v4 : Int32) (σ : sx_M) (τ : sx_L)  (h : wp_Mo_parts_b244 k7 k208 Q  v1 v3 v4 σ τ) : sx_G X K 8 244 [(0, .ref (K.2.2.1 50 0 0)), (1, .int v1), (3, .int v3), (4, .int v4)] [] (sx_H K σ τ) := by
  unfold wp_Mo_parts_b244 at h
  refine sx_iinc (pc2 := 247) hX 2 _ [(0, .ref (K.2.2.1 50 0 0)), (1, .int v1), (3, .int (v3 + 1)), (4, .int v4)] [1, 2, 0, 3] d_Mo_parts_244 rfl (v3 + 1) rfl (by decide) rfl rfl rfl ?_
  refine sx_goto (tgt := 208) hX d_Mo_parts_247 (by decide) ?_
  exact hk208 v1 (v3 + 1) v4 _ _ h
set_option maxRecDepth 100000 in
set_option maxHeartbeats 4000000 in
theorem g_Mo_parts_b208 {l : Launch} {K : sx_K} {X : sx_T}  {k7 : Int32 → sx_M → sx_L → Prop} {Q : sx_M → sx_L → Prop} (hX : sx_C X K prog_13_method_12_code 8 "SensorTreeModel" none rm_Mo_parts l) (hK : kx_F K) (hE : sx_E X K (sx_Qv K Q))  (hk7 : ∀ (v1 : Int32) (σ : sx_M) (τ : sx_L) , k7 v1 σ τ → sx_G X K 8 7 [(0, .ref (K.2.2.1 50 0 0)), (1, .int v1)] [] (sx_H K σ τ)) : ∀ (f : Nat) (v1 : Int32) (v3 : Int32) (v4 : Int32) (σ : sx_M) (τ : sx_L) , wp_Mo_parts_b208 k7 Q f v1 v3 v4 σ τ → sx_G X K 8 208 [(0, .ref (K.2.2.1 50 0 0)), (1, .int v1), (3, .int v3), (4, .int v4)] [] (sx_H K σ τ) := by
  intro f
  induction f with
  | zero => intro v1 v3 v4 σ τ h; exact (show False from h).elim
  | succ f ih =>
    intro v1 v3 v4 σ τ h
    rw [wp_Mo_parts_b208] at h
    refine sx_aload_n (pc2 := 209) hX 0 d_Mo_parts_208 rfl rfl rfl ?_
    refine sx_iload_n (pc2 := 210) hX 1 d_Mo_parts_209 rfl rfl rfl ?_
    refine sx_iload_n (pc2 := 211) hX 2 d_Mo_parts_210 rfl rfl rfl ?_
    refine sx_iadd (pc2 := 212) hX d_Mo_parts_211 rfl ?_
    refine cl_Mo_124 (pc2 := 215) hX hK h  ⟨Nat.le_of_ble_eq_true rfl, Nat.le_of_ble_eq_true rfl⟩ (Nat.le_of_ble_eq_true rfl) d_Mo_parts_212 rfl (fun r2 σ2 τ2 h => ?_)
    refine cl_Mo_136 (pc2 := 218) hX hK h  ⟨Nat.le_of_ble_eq_true rfl, Nat.le_of_ble_eq_true rfl⟩ (Nat.le_of_ble_eq_true rfl) d_Mo_parts_215 rfl (fun r3 σ3 τ3 h => ?_)
    refine sx_if_eq (tgt := 250) (pc2 := 221) hX d_Mo_parts_218 (by decide) rfl (fun hc4 => ?_) (fun hc4 => ?_)
    · replace h := sx_t h hc4
      refine sx_aload_n (pc2 := 251) hX 0 d_Mo_parts_250 rfl rfl rfl ?_
      refine sx_iload_n (pc2 := 252) hX 2 d_Mo_parts_251 rfl rfl rfl ?_
      refine sx_iconst (v := 4) (pc2 := 253) hX d_Mo_parts_252 (by decide) rfl ?_
      refine sx_icmp_le (tgt := 260) (pc2 := 256) hX d_Mo_parts_253 (by decide) rfl (fun hc5 => ?_) (fun hc5 => ?_)
      · replace h := sx_t h hc5
        refine sx_iconst (v := 2) (pc2 := 261) hX d_Mo_parts_260 (by decide) rfl ?_
        exact g_Mo_parts_b261 hX hK hE  hk7 v1 v3 v4 2 _ _ h
      · replace h := sx_f h hc5
        refine sx_iconst (v := 3) (pc2 := 257) hX d_Mo_parts_256 (by decide) rfl ?_
        refine sx_goto (tgt := 261) hX d_Mo_parts_257 (by decide) ?_
        exact g_Mo_parts_b261 hX hK hE  hk7 v1 v3 v4 3 _ _ h
    · replace h := sx_f h hc4
      refine sx_iload_n (pc2 := 222) hX 2 d_Mo_parts_221 rfl rfl rfl ?_
      refine sx_iconst (v := 4) (pc2 := 223) hX d_Mo_parts_222 (by decide) rfl ?_
      refine sx_icmp_ge (tgt := 244) (pc2 := 226) hX d_Mo_parts_223 (by decide) rfl (fun hc6 => ?_) (fun hc6 => ?_)
      · replace h := sx_t h hc6
        exact g_Mo_parts_b244 hX hK hE  hk7 ih v1 v3 v4 _ _ h
      · replace h := sx_f h hc6
        refine sx_bipush (v := 10) (pc2 := 228) hX d_Mo_parts_226 (by decide) rfl ?_
        refine sx_iload (pc2 := 230) hX 3 d_Mo_parts_228 rfl rfl ?_
        refine sx_imul (pc2 := 231) hX d_Mo_parts_230 rfl ?_
        refine sx_aload_n (pc2 := 232) hX 0 d_Mo_parts_231 rfl rfl rfl ?_
        refine sx_iload_n (pc2 := 233) hX 1 d_Mo_parts_232 rfl rfl rfl ?_
        refine sx_iload_n (pc2 := 234) hX 2 d_Mo_parts_233 rfl rfl rfl ?_
        refine sx_iadd (pc2 := 235) hX d_Mo_parts_234 rfl ?_
        refine cl_Mo_124 (pc2 := 238) hX hK h  ⟨Nat.le_of_ble_eq_true rfl, Nat.le_of_ble_eq_true rfl⟩ (Nat.le_of_ble_eq_true rfl) d_Mo_parts_235 rfl (fun r7 σ7 τ7 h => ?_)
        refine sx_iadd (pc2 := 239) hX d_Mo_parts_238 rfl ?_
        refine sx_bipush (v := 48) (pc2 := 241) hX d_Mo_parts_239 (by decide) rfl ?_
        refine sx_isub (pc2 := 242) hX d_Mo_parts_241 rfl ?_
        refine sx_istore (pc2 := 244) hX _ [(0, .ref (K.2.2.1 50 0 0)), (1, .int v1), (3, .int v3), (4, .int (((10 * v4) + r7) - 48))] [1, 2, 3, 0] d_Mo_parts_242 (by decide) rfl rfl rfl ?_
        exact g_Mo_parts_b244 hX hK hE  hk7 ih v1 v3 (((10 * v4) + r7) - 48) _ _ h
set_option maxRecDepth 100000 in
set_option maxHeartbeats 4000000 in
theorem g_Mo_parts_b179 {l : Launch} {K : sx_K} {X : sx_T}  {k7 : Int32 → sx_M → sx_L → Prop} {Q : sx_M → sx_L → Prop} (hX : sx_C X K prog_13_method_12_code 8 "SensorTreeModel" none rm_Mo_parts l) (hK : kx_F K) (hE : sx_E X K (sx_Qv K Q))  (hk7 : ∀ (v1 : Int32) (σ : sx_M) (τ : sx_L) , k7 v1 σ τ → sx_G X K 8 7 [(0, .ref (K.2.2.1 50 0 0)), (1, .int v1)] [] (sx_H K σ τ)) (v1 : Int32) (v3 : Int32) (v4 : Int64) (v6 : Int32) (σ : sx_M) (τ : sx_L)  (h : wp_Mo_parts_b179 k7 Q  v1 v3 v4 v6 σ τ) : sx_G X K 8 179 [(0, .ref (K.2.2.1 50 0 0)), (1, .int v1), (3, .int v3), (4, .long v4), (6, .int v6)] [] (sx_H K σ τ) := by
  unfold wp_Mo_parts_b179 at h
  refine sx_aload_n (pc2 := 180) hX 0 d_Mo_parts_179 rfl rfl rfl ?_
  refine sx_iload (pc2 := 182) hX 4 d_Mo_parts_180 rfl rfl ?_
  refine sx_iload_n (pc2 := 183) hX 1 d_Mo_parts_182 rfl rfl rfl ?_
  refine sx_iconst (v := 0) (pc2 := 184) hX d_Mo_parts_183 (by decide) rfl ?_
  refine sx_lload (pc2 := 186) hX 3 d_Mo_parts_184 rfl rfl ?_
  refine cl_Mo_128 (pc2 := 189) hX hK h  ⟨Nat.le_of_ble_eq_true rfl, Nat.le_of_ble_eq_true rfl⟩ (Nat.le_of_ble_eq_true rfl) d_Mo_parts_186 rfl (fun σ8 τ8 h => ?_)
  refine sx_iload_n (pc2 := 190) hX 1 d_Mo_parts_189 rfl rfl rfl ?_
  refine sx_iload_n (pc2 := 191) hX 2 d_Mo_parts_190 rfl rfl rfl ?_
  refine sx_iadd (pc2 := 192) hX d_Mo_parts_191 rfl ?_
  refine sx_istore_n (pc2 := 193) hX _ [(0, .ref (K.2.2.1 50 0 0)), (1, .int (v1 + v3)), (3, .int v3), (4, .long v4), (6, .int v6)] [1, 0, 2, 3, 4] d_Mo_parts_192 rfl (by decide) rfl rfl rfl ?_
  refine sx_goto (tgt := 291) hX d_Mo_parts_193 (by decide) ?_
  refine sx_sub [(0, .ref (K.2.2.1 50 0 0)), (1, .int (v1 + v3))] [0, 1] rfl ?_
  exact g_Mo_parts_b291 hX hK hE  hk7 (v1 + v3) _ _ h
set_option maxRecDepth 100000 in
set_option maxHeartbeats 4000000 in
theorem g_Mo_parts_b173 {l : Launch} {K : sx_K} {X : sx_T}  {k7 : Int32 → sx_M → sx_L → Prop} {k146 : Int32 → Int32 → Int64 → Int32 → Int32 → sx_M → sx_L → Prop} {Q : sx_M → sx_L → Prop} (hX : sx_C X K prog_13_method_12_code 8 "SensorTreeModel" none rm_Mo_parts l) (hK : kx_F K) (hE : sx_E X K (sx_Qv K Q))  (hk7 : ∀ (v1 : Int32) (σ : sx_M) (τ : sx_L) , k7 v1 σ τ → sx_G X K 8 7 [(0, .ref (K.2.2.1 50 0 0)), (1, .int v1)] [] (sx_H K σ τ)) (hk146 : ∀ (v1 : Int32) (v3 : Int32) (v4 : Int64) (v6 : Int32) (v7 : Int32) (σ : sx_M) (τ : sx_L) , k146 v1 v3 v4 v6 v7 σ τ → sx_G X K 8 146 [(0, .ref (K.2.2.1 50 0 0)), (1, .int v1), (3, .int v3), (4, .long v4), (6, .int v6), (7, .int v7)] [] (sx_H K σ τ)) (v1 : Int32) (v3 : Int32) (v4 : Int64) (v6 : Int32) (v7 : Int32) (σ : sx_M) (τ : sx_L)  (h : wp_Mo_parts_b173 k7 k146 Q  v1 v3 v4 v6 v7 σ τ) : sx_G X K 8 173 [(0, .ref (K.2.2.1 50 0 0)), (1, .int v1), (3, .int v3), (4, .long v4), (6, .int v6), (7, .int v7)] [] (sx_H K σ τ) := by
  unfold wp_Mo_parts_b173 at h
  refine sx_iinc (pc2 := 176) hX 5 _ [(0, .ref (K.2.2.1 50 0 0)), (1, .int v1), (3, .int v3), (4, .long v4), (6, .int v6), (7, .int (v7 + 1))] [1, 2, 3, 4, 5, 0] d_Mo_parts_173 rfl (v7 + 1) rfl (by decide) rfl rfl rfl ?_
  refine sx_goto (tgt := 146) hX d_Mo_parts_176 (by decide) ?_
  exact hk146 v1 v3 v4 v6 (v7 + 1) _ _ h
set_option maxRecDepth 100000 in
set_option maxHeartbeats 4000000 in
theorem g_Mo_parts_b146 {l : Launch} {K : sx_K} {X : sx_T}  {k7 : Int32 → sx_M → sx_L → Prop} {Q : sx_M → sx_L → Prop} (hX : sx_C X K prog_13_method_12_code 8 "SensorTreeModel" none rm_Mo_parts l) (hK : kx_F K) (hE : sx_E X K (sx_Qv K Q))  (hk7 : ∀ (v1 : Int32) (σ : sx_M) (τ : sx_L) , k7 v1 σ τ → sx_G X K 8 7 [(0, .ref (K.2.2.1 50 0 0)), (1, .int v1)] [] (sx_H K σ τ)) : ∀ (f : Nat) (v1 : Int32) (v3 : Int32) (v4 : Int64) (v6 : Int32) (v7 : Int32) (σ : sx_M) (τ : sx_L) , wp_Mo_parts_b146 k7 Q f v1 v3 v4 v6 v7 σ τ → sx_G X K 8 146 [(0, .ref (K.2.2.1 50 0 0)), (1, .int v1), (3, .int v3), (4, .long v4), (6, .int v6), (7, .int v7)] [] (sx_H K σ τ) := by
  intro f
  induction f with
  | zero => intro v1 v3 v4 v6 v7 σ τ h; exact (show False from h).elim
  | succ f ih =>
    intro v1 v3 v4 v6 v7 σ τ h
    rw [wp_Mo_parts_b146] at h
    refine sx_iload (pc2 := 148) hX 5 d_Mo_parts_146 rfl rfl ?_
    refine sx_bipush (v := 14) (pc2 := 150) hX d_Mo_parts_148 (by decide) rfl ?_
    refine sx_icmp_ge (tgt := 179) (pc2 := 153) hX d_Mo_parts_150 (by decide) rfl (fun hc9 => ?_) (fun hc9 => ?_)
    · replace h := sx_t h hc9
      refine sx_sub [(0, .ref (K.2.2.1 50 0 0)), (1, .int v1), (3, .int v3), (4, .long v4), (6, .int v6)] [0, 1, 2, 3, 4] rfl ?_
      exact g_Mo_parts_b179 hX hK hE  hk7 v1 v3 v4 v6 _ _ h
    · replace h := sx_f h hc9
      refine sx_aload_n (pc2 := 154) hX 0 d_Mo_parts_153 rfl rfl rfl ?_
      refine fg_Mo_34 (pc2 := 157) hX (kr_50 hK) d_Mo_parts_154 rfl ?_
      refine sx_iload (pc2 := 159) hX 5 d_Mo_parts_157 rfl rfl ?_
      obtain ⟨hc10, h⟩ := h
      refine sx_lald (pc2 := 160) hX (kr_57 hK) rfl hc10 d_Mo_parts_159 rfl ?_
      refine sx_lload (pc2 := 162) hX 3 d_Mo_parts_160 rfl rfl ?_
      refine sx_lcmp (pc2 := 163) hX d_Mo_parts_162 rfl ?_
      refine sx_if_ne (tgt := 173) (pc2 := 166) hX d_Mo_parts_163 (by decide) rfl (fun hc11 => ?_) (fun hc11 => ?_)
      · replace h := sx_f h hc11
        exact g_Mo_parts_b173 hX hK hE  hk7 ih v1 v3 v4 v6 v7 _ _ h
      · replace h := sx_t h hc11
        refine sx_bipush (v := 20) (pc2 := 168) hX d_Mo_parts_166 (by decide) rfl ?_
        refine sx_iload (pc2 := 170) hX 5 d_Mo_parts_168 rfl rfl ?_
        refine sx_iadd (pc2 := 171) hX d_Mo_parts_170 rfl ?_
        refine sx_istore (pc2 := 173) hX _ [(0, .ref (K.2.2.1 50 0 0)), (1, .int v1), (3, .int v3), (4, .long v4), (6, .int (20 + v7)), (7, .int v7)] [1, 2, 3, 4, 0, 5] d_Mo_parts_171 (by decide) rfl rfl rfl ?_
        exact g_Mo_parts_b173 hX hK hE  hk7 ih v1 v3 v4 (20 + v7) v7 _ _ h
set_option maxRecDepth 100000 in
set_option maxHeartbeats 4000000 in
theorem g_Mo_parts_b135 {l : Launch} {K : sx_K} {X : sx_T}  {k7 : Int32 → sx_M → sx_L → Prop} {Q : sx_M → sx_L → Prop} (hX : sx_C X K prog_13_method_12_code 8 "SensorTreeModel" none rm_Mo_parts l) (hK : kx_F K) (hE : sx_E X K (sx_Qv K Q))  (hk7 : ∀ (v1 : Int32) (σ : sx_M) (τ : sx_L) , k7 v1 σ τ → sx_G X K 8 7 [(0, .ref (K.2.2.1 50 0 0)), (1, .int v1)] [] (sx_H K σ τ)) (v1 : Int32) (v3 : Int32) (v4 : Int64) (w0 : Int32) (σ : sx_M) (τ : sx_L)  (h : wp_Mo_parts_b135 k7 Q  v1 v3 v4 w0 σ τ) : sx_G X K 8 135 [(0, .ref (K.2.2.1 50 0 0)), (1, .int v1), (3, .int v3), (4, .long v4)] [.int w0] (sx_H K σ τ) := by
  unfold wp_Mo_parts_b135 at h
  refine sx_istore (pc2 := 137) hX _ [(0, .ref (K.2.2.1 50 0 0)), (1, .int v1), (3, .int v3), (4, .long v4), (6, .int w0)] [1, 2, 3, 4, 0] d_Mo_parts_135 (by decide) rfl rfl rfl ?_
  refine sx_iload_n (pc2 := 138) hX 2 d_Mo_parts_137 rfl rfl rfl ?_
  refine sx_bipush (v := 8) (pc2 := 140) hX d_Mo_parts_138 (by decide) rfl ?_
  refine sx_icmp_gt (tgt := 179) (pc2 := 143) hX d_Mo_parts_140 (by decide) rfl (fun hc12 => ?_) (fun hc12 => ?_)
  · replace h := sx_t h hc12
    exact g_Mo_parts_b179 hX hK hE  hk7 v1 v3 v4 w0 _ _ h
  · replace h := sx_f h hc12
    refine sx_iconst (v := 0) (pc2 := 144) hX d_Mo_parts_143 (by decide) rfl ?_
    refine sx_istore (pc2 := 146) hX _ [(0, .ref (K.2.2.1 50 0 0)), (1, .int v1), (3, .int v3), (4, .long v4), (6, .int w0), (7, .int 0)] [1, 2, 3, 4, 5, 0] d_Mo_parts_144 (by decide) rfl rfl rfl ?_
    obtain ⟨f146, h⟩ := h
    exact g_Mo_parts_b146 hX hK hE  hk7 f146 v1 v3 v4 w0 0 _ _ h
set_option maxRecDepth 100000 in
set_option maxHeartbeats 4000000 in
theorem g_Mo_parts_b118 {l : Launch} {K : sx_K} {X : sx_T}  {k7 : Int32 → sx_M → sx_L → Prop} {k85 : Int32 → Int32 → Int64 → sx_M → sx_L → Prop} {Q : sx_M → sx_L → Prop} (hX : sx_C X K prog_13_method_12_code 8 "SensorTreeModel" none rm_Mo_parts l) (hK : kx_F K) (hE : sx_E X K (sx_Qv K Q))  (hk7 : ∀ (v1 : Int32) (σ : sx_M) (τ : sx_L) , k7 v1 σ τ → sx_G X K 8 7 [(0, .ref (K.2.2.1 50 0 0)), (1, .int v1)] [] (sx_H K σ τ)) (hk85 : ∀ (v1 : Int32) (v3 : Int32) (v4 : Int64) (σ : sx_M) (τ : sx_L) , k85 v1 v3 v4 σ τ → sx_G X K 8 85 [(0, .ref (K.2.2.1 50 0 0)), (1, .int v1), (3, .int v3), (4, .long v4)] [] (sx_H K σ τ)) (v1 : Int32) (v3 : Int32) (v4 : Int64) (σ : sx_M) (τ : sx_L)  (h : wp_Mo_parts_b118 k7 k85 Q  v1 v3 v4 σ τ) : sx_G X K 8 118 [(0, .ref (K.2.2.1 50 0 0)), (1, .int v1), (3, .int v3), (4, .long v4)] [] (sx_H K σ τ) := by
  unfold wp_Mo_parts_b118 at h
  refine sx_iinc (pc2 := 121) hX 2 _ [(0, .ref (K.2.2.1 50 0 0)), (1, .int v1), (3, .int (v3 + 1)), (4, .long v4)] [1, 2, 0, 3] d_Mo_parts_118 rfl (v3 + 1) rfl (by decide) rfl rfl rfl ?_
  refine sx_goto (tgt := 85) hX d_Mo_parts_121 (by decide) ?_
  exact hk85 v1 (v3 + 1) v4 _ _ h
set_option maxRecDepth 100000 in
set_option maxHeartbeats 4000000 in
theorem g_Mo_parts_b85 {l : Launch} {K : sx_K} {X : sx_T}  {k7 : Int32 → sx_M → sx_L → Prop} {Q : sx_M → sx_L → Prop} (hX : sx_C X K prog_13_method_12_code 8 "SensorTreeModel" none rm_Mo_parts l) (hK : kx_F K) (hE : sx_E X K (sx_Qv K Q))  (hk7 : ∀ (v1 : Int32) (σ : sx_M) (τ : sx_L) , k7 v1 σ τ → sx_G X K 8 7 [(0, .ref (K.2.2.1 50 0 0)), (1, .int v1)] [] (sx_H K σ τ)) : ∀ (f : Nat) (v1 : Int32) (v3 : Int32) (v4 : Int64) (σ : sx_M) (τ : sx_L) , wp_Mo_parts_b85 k7 Q f v1 v3 v4 σ τ → sx_G X K 8 85 [(0, .ref (K.2.2.1 50 0 0)), (1, .int v1), (3, .int v3), (4, .long v4)] [] (sx_H K σ τ) := by
  intro f
  induction f with
  | zero => intro v1 v3 v4 σ τ h; exact (show False from h).elim
  | succ f ih =>
    intro v1 v3 v4 σ τ h
    rw [wp_Mo_parts_b85] at h
    refine sx_aload_n (pc2 := 86) hX 0 d_Mo_parts_85 rfl rfl rfl ?_
    refine sx_iload_n (pc2 := 87) hX 1 d_Mo_parts_86 rfl rfl rfl ?_
    refine sx_iload_n (pc2 := 88) hX 2 d_Mo_parts_87 rfl rfl rfl ?_
    refine sx_iadd (pc2 := 89) hX d_Mo_parts_88 rfl ?_
    refine cl_Mo_124 (pc2 := 92) hX hK h  ⟨Nat.le_of_ble_eq_true rfl, Nat.le_of_ble_eq_true rfl⟩ (Nat.le_of_ble_eq_true rfl) d_Mo_parts_89 rfl (fun r13 σ13 τ13 h => ?_)
    refine cl_Mo_132 (pc2 := 95) hX hK h  ⟨Nat.le_of_ble_eq_true rfl, Nat.le_of_ble_eq_true rfl⟩ (Nat.le_of_ble_eq_true rfl) d_Mo_parts_92 rfl (fun r14 σ14 τ14 h => ?_)
    refine sx_if_eq (tgt := 124) (pc2 := 98) hX d_Mo_parts_95 (by decide) rfl (fun hc15 => ?_) (fun hc15 => ?_)
    · replace h := sx_t h hc15
      refine sx_iload_n (pc2 := 125) hX 2 d_Mo_parts_124 rfl rfl rfl ?_
      refine sx_bipush (v := 8) (pc2 := 127) hX d_Mo_parts_125 (by decide) rfl ?_
      refine sx_icmp_le (tgt := 134) (pc2 := 130) hX d_Mo_parts_127 (by decide) rfl (fun hc16 => ?_) (fun hc16 => ?_)
      · replace h := sx_t h hc16
        refine sx_iconst (v := 1) (pc2 := 135) hX d_Mo_parts_134 (by decide) rfl ?_
        exact g_Mo_parts_b135 hX hK hE  hk7 v1 v3 v4 1 _ _ h
      · replace h := sx_f h hc16
        refine sx_iconst (v := 3) (pc2 := 131) hX d_Mo_parts_130 (by decide) rfl ?_
        refine sx_goto (tgt := 135) hX d_Mo_parts_131 (by decide) ?_
        exact g_Mo_parts_b135 hX hK hE  hk7 v1 v3 v4 3 _ _ h
    · replace h := sx_f h hc15
      refine sx_iload_n (pc2 := 99) hX 2 d_Mo_parts_98 rfl rfl rfl ?_
      refine sx_bipush (v := 8) (pc2 := 101) hX d_Mo_parts_99 (by decide) rfl ?_
      refine sx_icmp_ge (tgt := 118) (pc2 := 104) hX d_Mo_parts_101 (by decide) rfl (fun hc17 => ?_) (fun hc17 => ?_)
      · replace h := sx_t h hc17
        exact g_Mo_parts_b118 hX hK hE  hk7 ih v1 v3 v4 _ _ h
      · replace h := sx_f h hc17
        refine sx_lload (pc2 := 106) hX 3 d_Mo_parts_104 rfl rfl ?_
        refine sx_aload_n (pc2 := 107) hX 0 d_Mo_parts_106 rfl rfl rfl ?_
        refine sx_iload_n (pc2 := 108) hX 1 d_Mo_parts_107 rfl rfl rfl ?_
        refine sx_iload_n (pc2 := 109) hX 2 d_Mo_parts_108 rfl rfl rfl ?_
        refine sx_iadd (pc2 := 110) hX d_Mo_parts_109 rfl ?_
        refine cl_Mo_124 (pc2 := 113) hX hK h  ⟨Nat.le_of_ble_eq_true rfl, Nat.le_of_ble_eq_true rfl⟩ (Nat.le_of_ble_eq_true rfl) d_Mo_parts_110 rfl (fun r18 σ18 τ18 h => ?_)
        refine cl_Mo_117 (pc2 := 116) hX hK h  ⟨Nat.le_of_ble_eq_true rfl, Nat.le_of_ble_eq_true rfl⟩ (Nat.le_of_ble_eq_true rfl) d_Mo_parts_113 rfl (fun r19 σ19 τ19 h => ?_)
        refine sx_lstore (pc2 := 118) hX _ [(0, .ref (K.2.2.1 50 0 0)), (1, .int v1), (3, .int v3), (4, .long r19)] [1, 2, 3, 0] d_Mo_parts_116 (by decide) rfl rfl rfl ?_
        exact g_Mo_parts_b118 hX hK hE  hk7 ih v1 v3 r19 _ _ h
set_option maxRecDepth 100000 in
set_option maxHeartbeats 4000000 in
theorem g_Mo_parts_b67 {l : Launch} {K : sx_K} {X : sx_T}  {k7 : Int32 → sx_M → sx_L → Prop} {Q : sx_M → sx_L → Prop} (hX : sx_C X K prog_13_method_12_code 8 "SensorTreeModel" none rm_Mo_parts l) (hK : kx_F K) (hE : sx_E X K (sx_Qv K Q))  (hk7 : ∀ (v1 : Int32) (σ : sx_M) (τ : sx_L) , k7 v1 σ τ → sx_G X K 8 7 [(0, .ref (K.2.2.1 50 0 0)), (1, .int v1)] [] (sx_H K σ τ)) (v1 : Int32) (σ : sx_M) (τ : sx_L)  (h : wp_Mo_parts_b67 k7 Q  v1 σ τ) : sx_G X K 8 67 [(0, .ref (K.2.2.1 50 0 0)), (1, .int v1)] [] (sx_H K σ τ) := by
  unfold wp_Mo_parts_b67 at h
  refine sx_iinc (pc2 := 70) hX 1 _ [(0, .ref (K.2.2.1 50 0 0)), (1, .int (v1 + 1))] [1, 0] d_Mo_parts_67 rfl (v1 + 1) rfl (by decide) rfl rfl rfl ?_
  refine sx_goto (tgt := 291) hX d_Mo_parts_70 (by decide) ?_
  exact g_Mo_parts_b291 hX hK hE  hk7 (v1 + 1) _ _ h
set_option maxRecDepth 100000 in
set_option maxHeartbeats 4000000 in
theorem g_Mo_parts_b7 {l : Launch} {K : sx_K} {X : sx_T}   {Q : sx_M → sx_L → Prop} (hX : sx_C X K prog_13_method_12_code 8 "SensorTreeModel" none rm_Mo_parts l) (hK : kx_F K) (hE : sx_E X K (sx_Qv K Q))  : ∀ (f : Nat) (v1 : Int32) (σ : sx_M) (τ : sx_L) , wp_Mo_parts_b7 Q f v1 σ τ → sx_G X K 8 7 [(0, .ref (K.2.2.1 50 0 0)), (1, .int v1)] [] (sx_H K σ τ) := by
  intro f
  induction f with
  | zero => intro v1 σ τ h; exact (show False from h).elim
  | succ f ih =>
    intro v1 σ τ h
    rw [wp_Mo_parts_b7] at h
    refine sx_aload_n (pc2 := 8) hX 0 d_Mo_parts_7 rfl rfl rfl ?_
    refine fg_Mo_121 (pc2 := 11) hX (kr_50 hK) d_Mo_parts_8 rfl ?_
    refine sx_sipush (v := 400) (pc2 := 14) hX d_Mo_parts_11 (by decide) rfl ?_
    refine sx_icmp_gt (tgt := 294) (pc2 := 17) hX d_Mo_parts_14 (by decide) rfl (fun hc20 => ?_) (fun hc20 => ?_)
    · replace h := sx_t h hc20
      exact sx_vret hX hE h d_Mo_parts_294
    · replace h := sx_f h hc20
      refine sx_aload_n (pc2 := 18) hX 0 d_Mo_parts_17 rfl rfl rfl ?_
      refine sx_iload_n (pc2 := 19) hX 1 d_Mo_parts_18 rfl rfl rfl ?_
      refine cl_Mo_124 (pc2 := 22) hX hK h  ⟨Nat.le_of_ble_eq_true rfl, Nat.le_of_ble_eq_true rfl⟩ (Nat.le_of_ble_eq_true rfl) d_Mo_parts_19 rfl (fun r21 σ21 τ21 h => ?_)
      refine sx_istore_n (pc2 := 23) hX _ [(0, .ref (K.2.2.1 50 0 0)), (1, .int v1), (2, .int r21)] [1, 2, 0] d_Mo_parts_22 rfl (by decide) rfl rfl rfl ?_
      refine sx_iload_n (pc2 := 24) hX 1 d_Mo_parts_23 rfl rfl rfl ?_
      refine sx_aload_n (pc2 := 25) hX 0 d_Mo_parts_24 rfl rfl rfl ?_
      refine fg_Mo_112 (pc2 := 28) hX (kr_50 hK) d_Mo_parts_25 rfl ?_
      refine sx_icmp_lt (tgt := 43) (pc2 := 31) hX d_Mo_parts_28 (by decide) rfl (fun hc22 => ?_) (fun hc22 => ?_)
      · replace h := sx_t h hc22
        refine sx_iload_n (pc2 := 44) hX 2 d_Mo_parts_43 rfl rfl rfl ?_
        refine sx_bipush (v := 9) (pc2 := 46) hX d_Mo_parts_44 (by decide) rfl ?_
        refine sx_icmp_eq (tgt := 67) (pc2 := 49) hX d_Mo_parts_46 (by decide) rfl (fun hc23 => ?_) (fun hc23 => ?_)
        · replace h := sx_t h hc23
          refine sx_sub [(0, .ref (K.2.2.1 50 0 0)), (1, .int v1)] [0, 1] rfl ?_
          exact g_Mo_parts_b67 hX hK hE  ih v1 _ _ h
        · replace h := sx_f h hc23
          refine sx_iload_n (pc2 := 50) hX 2 d_Mo_parts_49 rfl rfl rfl ?_
          refine sx_bipush (v := 10) (pc2 := 52) hX d_Mo_parts_50 (by decide) rfl ?_
          refine sx_icmp_eq (tgt := 67) (pc2 := 55) hX d_Mo_parts_52 (by decide) rfl (fun hc24 => ?_) (fun hc24 => ?_)
          · replace h := sx_t h hc24
            refine sx_sub [(0, .ref (K.2.2.1 50 0 0)), (1, .int v1)] [0, 1] rfl ?_
            exact g_Mo_parts_b67 hX hK hE  ih v1 _ _ h
          · replace h := sx_f h hc24
            refine sx_iload_n (pc2 := 56) hX 2 d_Mo_parts_55 rfl rfl rfl ?_
            refine sx_bipush (v := 13) (pc2 := 58) hX d_Mo_parts_56 (by decide) rfl ?_
            refine sx_icmp_eq (tgt := 67) (pc2 := 61) hX d_Mo_parts_58 (by decide) rfl (fun hc25 => ?_) (fun hc25 => ?_)
            · replace h := sx_t h hc25
              refine sx_sub [(0, .ref (K.2.2.1 50 0 0)), (1, .int v1)] [0, 1] rfl ?_
              exact g_Mo_parts_b67 hX hK hE  ih v1 _ _ h
            · replace h := sx_f h hc25
              refine sx_iload_n (pc2 := 62) hX 2 d_Mo_parts_61 rfl rfl rfl ?_
              refine sx_bipush (v := 32) (pc2 := 64) hX d_Mo_parts_62 (by decide) rfl ?_
              refine sx_icmp_ne (tgt := 73) (pc2 := 67) hX d_Mo_parts_64 (by decide) rfl (fun hc26 => ?_) (fun hc26 => ?_)
              · replace h := sx_f h hc26
                refine sx_iload_n (pc2 := 74) hX 2 d_Mo_parts_73 rfl rfl rfl ?_
                refine cl_Mo_132 (pc2 := 77) hX hK h  ⟨Nat.le_of_ble_eq_true rfl, Nat.le_of_ble_eq_true rfl⟩ (Nat.le_of_ble_eq_true rfl) d_Mo_parts_74 rfl (fun r27 σ27 τ27 h => ?_)
                refine sx_if_eq (tgt := 196) (pc2 := 80) hX d_Mo_parts_77 (by decide) rfl (fun hc28 => ?_) (fun hc28 => ?_)
                · replace h := sx_t h hc28
                  refine sx_iload_n (pc2 := 197) hX 2 d_Mo_parts_196 rfl rfl rfl ?_
                  refine cl_Mo_136 (pc2 := 200) hX hK h  ⟨Nat.le_of_ble_eq_true rfl, Nat.le_of_ble_eq_true rfl⟩ (Nat.le_of_ble_eq_true rfl) d_Mo_parts_197 rfl (fun r29 σ29 τ29 h => ?_)
                  refine sx_if_eq (tgt := 275) (pc2 := 203) hX d_Mo_parts_200 (by decide) rfl (fun hc30 => ?_) (fun hc30 => ?_)
                  · replace h := sx_t h hc30
                    refine sx_iload_n (pc2 := 276) hX 1 d_Mo_parts_275 rfl rfl rfl ?_
                    refine sx_aload_n (pc2 := 277) hX 0 d_Mo_parts_276 rfl rfl rfl ?_
                    refine sx_iload_n (pc2 := 278) hX 1 d_Mo_parts_277 rfl rfl rfl ?_
                    refine sx_iload_n (pc2 := 279) hX 2 d_Mo_parts_278 rfl rfl rfl ?_
                    refine sx_aload_n (pc2 := 280) hX 0 d_Mo_parts_279 rfl rfl rfl ?_
                    refine sx_iload_n (pc2 := 281) hX 1 d_Mo_parts_280 rfl rfl rfl ?_
                    refine sx_iconst (v := 1) (pc2 := 282) hX d_Mo_parts_281 (by decide) rfl ?_
                    refine sx_iadd (pc2 := 283) hX d_Mo_parts_282 rfl ?_
                    refine cl_Mo_124 (pc2 := 286) hX hK h  ⟨Nat.le_of_ble_eq_true rfl, Nat.le_of_ble_eq_true rfl⟩ (Nat.le_of_ble_eq_true rfl) d_Mo_parts_283 rfl (fun r31 σ31 τ31 h => ?_)
                    refine cl_Mo_139 (pc2 := 289) hX hK h  ⟨Nat.le_of_ble_eq_true rfl, Nat.le_of_ble_eq_true rfl⟩ (Nat.le_of_ble_eq_true rfl) d_Mo_parts_286 rfl (fun r32 σ32 τ32 h => ?_)
                    refine sx_iadd (pc2 := 290) hX d_Mo_parts_289 rfl ?_
                    refine sx_istore_n (pc2 := 291) hX _ [(0, .ref (K.2.2.1 50 0 0)), (1, .int (v1 + r32)), (2, .int r21)] [1, 0, 2] d_Mo_parts_290 rfl (by decide) rfl rfl rfl ?_
                    refine sx_sub [(0, .ref (K.2.2.1 50 0 0)), (1, .int (v1 + r32))] [0, 1] rfl ?_
                    exact g_Mo_parts_b291 hX hK hE  ih (v1 + r32) _ _ h
                  · replace h := sx_f h hc30
                    refine sx_iconst (v := 0) (pc2 := 204) hX d_Mo_parts_203 (by decide) rfl ?_
                    refine sx_istore_n (pc2 := 205) hX _ [(0, .ref (K.2.2.1 50 0 0)), (1, .int v1), (2, .int r21), (3, .int 0)] [1, 2, 3, 0] d_Mo_parts_204 rfl (by decide) rfl rfl rfl ?_
                    refine sx_iconst (v := 0) (pc2 := 206) hX d_Mo_parts_205 (by decide) rfl ?_
                    refine sx_istore (pc2 := 208) hX _ [(0, .ref (K.2.2.1 50 0 0)), (1, .int v1), (2, .int r21), (3, .int 0), (4, .int 0)] [1, 2, 3, 4, 0] d_Mo_parts_206 (by decide) rfl rfl rfl ?_
                    refine sx_sub [(0, .ref (K.2.2.1 50 0 0)), (1, .int v1), (3, .int 0), (4, .int 0)] [0, 1, 3, 4] rfl ?_
                    obtain ⟨f208, h⟩ := h
                    exact g_Mo_parts_b208 hX hK hE  ih f208 v1 0 0 _ _ h
                · replace h := sx_f h hc28
                  refine sx_iconst (v := 0) (pc2 := 81) hX d_Mo_parts_80 (by decide) rfl ?_
                  refine sx_istore_n (pc2 := 82) hX _ [(0, .ref (K.2.2.1 50 0 0)), (1, .int v1), (2, .int r21), (3, .int 0)] [1, 2, 3, 0] d_Mo_parts_81 rfl (by decide) rfl rfl rfl ?_
                  refine sx_lconst (v := 0) (pc2 := 83) hX d_Mo_parts_82 (by decide) rfl ?_
                  refine sx_lstore (pc2 := 85) hX _ [(0, .ref (K.2.2.1 50 0 0)), (1, .int v1), (2, .int r21), (3, .int 0), (4, .long 0)] [1, 2, 3, 4, 0] d_Mo_parts_83 (by decide) rfl rfl rfl ?_
                  refine sx_sub [(0, .ref (K.2.2.1 50 0 0)), (1, .int v1), (3, .int 0), (4, .long 0)] [0, 1, 3, 4] rfl ?_
                  obtain ⟨f85, h⟩ := h
                  exact g_Mo_parts_b85 hX hK hE  ih f85 v1 0 0 _ _ h
              · replace h := sx_t h hc26
                refine sx_sub [(0, .ref (K.2.2.1 50 0 0)), (1, .int v1)] [0, 1] rfl ?_
                exact g_Mo_parts_b67 hX hK hE  ih v1 _ _ h
      · replace h := sx_f h hc22
        refine sx_aload_n (pc2 := 32) hX 0 d_Mo_parts_31 rfl rfl rfl ?_
        refine sx_iconst (v := 0) (pc2 := 33) hX d_Mo_parts_32 (by decide) rfl ?_
        refine sx_aload_n (pc2 := 34) hX 0 d_Mo_parts_33 rfl rfl rfl ?_
        refine fg_Mo_112 (pc2 := 37) hX (kr_50 hK) d_Mo_parts_34 rfl ?_
        refine sx_iconst (v := 0) (pc2 := 38) hX d_Mo_parts_37 (by decide) rfl ?_
        refine sx_lconst (v := 0) (pc2 := 39) hX d_Mo_parts_38 (by decide) rfl ?_
        refine cl_Mo_128 (pc2 := 42) hX hK h  ⟨Nat.le_of_ble_eq_true rfl, Nat.le_of_ble_eq_true rfl⟩ (Nat.le_of_ble_eq_true rfl) d_Mo_parts_39 rfl (fun σ33 τ33 h => ?_)
        exact sx_vret hX hE h d_Mo_parts_42
set_option maxRecDepth 100000 in
set_option maxHeartbeats 4000000 in
theorem c_Mo_parts {l : Launch} {K : sx_K} (hK : kx_F K)  (σ : sx_M) (τ : sx_L) (Q : sx_M → sx_L → Prop)  (h : wp_Mo_parts σ τ Q) : Met l y_Mo_parts (sx_wd y_Mo_parts prog_13_method_12_code 8 none) rm_Mo_parts (sx_Pc K [.ref (K.2.2.1 50 0 0)] σ τ) (sx_Qv K Q) 0 0 (sx_A K) := by
  refine sx_met (by decide) (Nat.le_of_ble_eq_true rfl) (fun X hX hE => ?_)
  replace hX : sx_C X K prog_13_method_12_code 8 "SensorTreeModel" none rm_Mo_parts l := hX
  show sx_G X K 8 0 [(0, .ref (K.2.2.1 50 0 0))] [] (sx_H K σ τ)
  unfold wp_Mo_parts at h
  refine sx_aload_n (pc2 := 1) hX 0 d_Mo_parts_0 rfl rfl rfl ?_
  refine sx_iconst (v := 0) (pc2 := 2) hX d_Mo_parts_1 (by decide) rfl ?_
  refine fp_Mo_121 (pc2 := 5) hX (kr_50 hK) d_Mo_parts_2 rfl ?_
  refine sx_nm (fun σ34 e34 => ?_)
  replace h := h σ34 e34
  refine sx_iconst (v := 0) (pc2 := 6) hX d_Mo_parts_5 (by decide) rfl ?_
  refine sx_istore_n (pc2 := 7) hX _ [(0, .ref (K.2.2.1 50 0 0)), (1, .int 0)] [1, 0] d_Mo_parts_6 rfl (by decide) rfl rfl rfl ?_
  obtain ⟨f7, h⟩ := h
  exact g_Mo_parts_b7 hX hK hE   f7 0 _ _ h
theorem cl_Mo_167 {X : sx_T} {K : sx_K} {cc : ByteArray} {nL : Nat} {ret : Option FieldType} {rm : Room} {l : Launch} {pc pc2 : Nat} {lv : List (Nat × Value)} {st : List Value} {σ : sx_M} {τ : sx_L}  {Q : sx_M → sx_L → Prop} (hX : sx_C X K cc nL "SensorTreeModel" ret rm l) (hK : kx_F K) (h : wp_Mo_parts  σ τ Q)  (hR : rm_Mo_parts.frames + 1 ≤ rm.frames ∧ 8 + (8 + 11) + rm_Mo_parts.locals ≤ rm.locals) (hst : (st.map fun v => v.category).sum ≤ 8) (hd : decode cc pc = .ok (.invokevirtual 167, 3)) (hpc : pc + 3 = pc2) (kk : ∀ (σ2 : sx_M) (τ2 : sx_L), Q σ2 τ2 → sx_G X K nL pc2 lv (st) (sx_H K σ2 τ2)) : sx_G X K nL pc lv (.ref (K.2.2.1 50 0 0) :: st) (sx_H K σ τ) :=
  sx_callVv (Q := Q) (As := []) hX (c_Mo_parts hK  σ τ Q  h) (kr_50 hK) rfl rfl lk_457 ls_46 hy_Mo_parts lk_455 lk_364 lk_456 ⟨rfl, rfl⟩ hR hst rfl hd hpc kk
def y_Mo_is : MethodName := ⟨"SensorTreeModel", "is", "(I)Z"⟩
theorem hy_Mo_is : y_Mo_is.cls ≠ "java/lang/invoke/MethodHandle" ∧ y_Mo_is.cls ≠ "java/lang/invoke/VarHandle" ∧ (parseMethodDescriptor y_Mo_is.desc).map (fun d => d.parameters.length) = some 1 := by decide +kernel
theorem d_Mo_is_0 : decode prog_13_method_14_code 0 = .ok (.aload_n 0, 1) := by decide +kernel
theorem d_Mo_is_1 : decode prog_13_method_14_code 1 = .ok (.getfield 143, 3) := by decide +kernel
theorem d_Mo_is_4 : decode prog_13_method_14_code 4 = .ok (.ifCond .ne 20, 3) := by decide +kernel
theorem d_Mo_is_7 : decode prog_13_method_14_code 7 = .ok (.aload_n 0, 1) := by decide +kernel
theorem d_Mo_is_8 : decode prog_13_method_14_code 8 = .ok (.getfield 20, 3) := by decide +kernel
theorem d_Mo_is_11 : decode prog_13_method_14_code 11 = .ok (.aload_n 0, 1) := by decide +kernel
theorem d_Mo_is_12 : decode prog_13_method_14_code 12 = .ok (.getfield 146, 3) := by decide +kernel
theorem d_Mo_is_15 : decode prog_13_method_14_code 15 = .ok (.iaload, 1) := by decide +kernel
theorem d_Mo_is_16 : decode prog_13_method_14_code 16 = .ok (.iload_n 1, 1) := by decide +kernel
theorem d_Mo_is_17 : decode prog_13_method_14_code 17 = .ok (.if_icmp .ne 7, 3) := by decide +kernel
theorem d_Mo_is_20 : decode prog_13_method_14_code 20 = .ok (.iconst 1, 1) := by decide +kernel
theorem d_Mo_is_21 : decode prog_13_method_14_code 21 = .ok (.goto 4, 3) := by decide +kernel
theorem d_Mo_is_24 : decode prog_13_method_14_code 24 = .ok (.iconst 0, 1) := by decide +kernel
theorem d_Mo_is_25 : decode prog_13_method_14_code 25 = .ok (.ireturn, 1) := by decide +kernel
def wp_Mo_is_b25   (Q : Int32 → sx_M → sx_L → Prop) (w0 : Int32) (σ : sx_M) (τ : sx_L) : Prop := (w0 = 0 ∨ w0 = 1) ∧ (Q w0 σ τ)
def wp_Mo_is_b24   (Q : Int32 → sx_M → sx_L → Prop)  (σ : sx_M) (τ : sx_L) : Prop := wp_Mo_is_b25 Q 0 σ τ
def wp_Mo_is (x1 : Int32) (σ : sx_M) (τ : sx_L) (Q : Int32 → sx_M → sx_L → Prop) : Prop := if σ 50 0 0 12 = 0 then (vp_in (σ 50 0 0 11) 403 ∧ (if σ 53 0 0 (σ 50 0 0 11).toNatClampNeg = x1 then (wp_Mo_is_b25 Q 1 σ τ) else (wp_Mo_is_b24 Q σ τ))) else (wp_Mo_is_b24 Q σ τ)
abbrev rm_Mo_is : Room := { frames := 0, cells := 0, slots := 0, locals := 0 }
set_option maxRecDepth 100000 in
set_option maxHeartbeats 4000000 in
theorem g_Mo_is_b25 {l : Launch} {K : sx_K} {X : sx_T}   {Q : Int32 → sx_M → sx_L → Prop} (hX : sx_C X K prog_13_method_14_code 2 "SensorTreeModel" (some .boolean) rm_Mo_is l) (hK : kx_F K) (hE : sx_E X K (sx_Qi K Q))  (w0 : Int32) (σ : sx_M) (τ : sx_L)  (h : wp_Mo_is_b25 Q  w0 σ τ) : sx_G X K 2 25 [] [.int w0] (sx_H K σ τ) := by
  unfold wp_Mo_is_b25 at h
  obtain ⟨hc1, h⟩ := h
  exact sx_zret hX hE hc1 h d_Mo_is_25
set_option maxRecDepth 100000 in
set_option maxHeartbeats 4000000 in
theorem g_Mo_is_b24 {l : Launch} {K : sx_K} {X : sx_T}   {Q : Int32 → sx_M → sx_L → Prop} (hX : sx_C X K prog_13_method_14_code 2 "SensorTreeModel" (some .boolean) rm_Mo_is l) (hK : kx_F K) (hE : sx_E X K (sx_Qi K Q))   (σ : sx_M) (τ : sx_L)  (h : wp_Mo_is_b24 Q  σ τ) : sx_G X K 2 24 [] [] (sx_H K σ τ) := by
  unfold wp_Mo_is_b24 at h
  refine sx_iconst (v := 0) (pc2 := 25) hX d_Mo_is_24 (by decide) rfl ?_
  exact g_Mo_is_b25 hX hK hE   0 _ _ h
set_option maxRecDepth 100000 in
set_option maxHeartbeats 4000000 in
theorem c_Mo_is {l : Launch} {K : sx_K} (hK : kx_F K) (x1 : Int32) (σ : sx_M) (τ : sx_L) (Q : Int32 → sx_M → sx_L → Prop)  (h : wp_Mo_is x1 σ τ Q) : Met l y_Mo_is (sx_wd y_Mo_is prog_13_method_14_code 2 (some .boolean)) rm_Mo_is (sx_Pc K [.ref (K.2.2.1 50 0 0), .int x1] σ τ) (sx_Qi K Q) 0 0 (sx_A K) := by
  refine sx_met (by decide) (Nat.le_of_ble_eq_true rfl) (fun X hX hE => ?_)
  replace hX : sx_C X K prog_13_method_14_code 2 "SensorTreeModel" (some .boolean) rm_Mo_is l := hX
  show sx_G X K 2 0 [(0, .ref (K.2.2.1 50 0 0)), (1, .int x1)] [] (sx_H K σ τ)
  unfold wp_Mo_is at h
  refine sx_aload_n (pc2 := 1) hX 0 d_Mo_is_0 rfl rfl rfl ?_
  refine fg_Mo_143 (pc2 := 4) hX (kr_50 hK) d_Mo_is_1 rfl ?_
  refine sx_if_ne (tgt := 24) (pc2 := 7) hX d_Mo_is_4 (by decide) rfl (fun hc2 => ?_) (fun hc2 => ?_)
  · replace h := sx_f h hc2
    refine sx_sub [] [] rfl ?_
    exact g_Mo_is_b24 hX hK hE   _ _ h
  · replace h := sx_t h hc2
    refine sx_aload_n (pc2 := 8) hX 0 d_Mo_is_7 rfl rfl rfl ?_
    refine fg_Mo_20 (pc2 := 11) hX (kr_50 hK) d_Mo_is_8 rfl ?_
    refine sx_aload_n (pc2 := 12) hX 0 d_Mo_is_11 rfl rfl rfl ?_
    refine fg_Mo_146 (pc2 := 15) hX (kr_50 hK) d_Mo_is_12 rfl ?_
    obtain ⟨hc3, h⟩ := h
    refine sx_iald (pc2 := 16) hX (kr_53 hK) rfl hc3 d_Mo_is_15 rfl ?_
    refine sx_iload_n (pc2 := 17) hX 1 d_Mo_is_16 rfl rfl rfl ?_
    refine sx_icmp_ne (tgt := 24) (pc2 := 20) hX d_Mo_is_17 (by decide) rfl (fun hc4 => ?_) (fun hc4 => ?_)
    · replace h := sx_f h hc4
      refine sx_sub [] [] rfl ?_
      exact g_Mo_is_b24 hX hK hE   _ _ h
    · replace h := sx_t h hc4
      refine sx_iconst (v := 1) (pc2 := 21) hX d_Mo_is_20 (by decide) rfl ?_
      refine sx_goto (tgt := 25) hX d_Mo_is_21 (by decide) ?_
      refine sx_sub [] [] rfl ?_
      exact g_Mo_is_b25 hX hK hE   1 _ _ h
theorem cl_Mo_161 {X : sx_T} {K : sx_K} {cc : ByteArray} {nL : Nat} {ret : Option FieldType} {rm : Room} {l : Launch} {pc pc2 : Nat} {lv : List (Nat × Value)} {st : List Value} {σ : sx_M} {τ : sx_L} {x1 : Int32} {Q : Int32 → sx_M → sx_L → Prop} (hX : sx_C X K cc nL "SensorTreeModel" ret rm l) (hK : kx_F K) (h : wp_Mo_is x1 σ τ Q)  (hR : rm_Mo_is.frames + 1 ≤ rm.frames ∧ 8 + (2 + 11) + rm_Mo_is.locals ≤ rm.locals) (hst : (st.map fun v => v.category).sum ≤ 8) (hd : decode cc pc = .ok (.invokevirtual 161, 3)) (hpc : pc + 3 = pc2) (kk : ∀ (r : Int32) (σ2 : sx_M) (τ2 : sx_L), Q r σ2 τ2 → sx_G X K nL pc2 lv (.int r :: st) (sx_H K σ2 τ2)) : sx_G X K nL pc lv (.int x1 :: .ref (K.2.2.1 50 0 0) :: st) (sx_H K σ τ) :=
  sx_callVi (Q := Q) (As := [.int x1]) hX (c_Mo_is hK x1 σ τ Q  h) (kr_50 hK) rfl rfl lk_391 ls_50 hy_Mo_is lk_389 lk_364 lk_390 ⟨rfl, rfl⟩ hR hst rfl hd hpc kk
def y_Mo_fail : MethodName := ⟨"SensorTreeModel", "fail", "(I)V"⟩
theorem hy_Mo_fail : y_Mo_fail.cls ≠ "java/lang/invoke/MethodHandle" ∧ y_Mo_fail.cls ≠ "java/lang/invoke/VarHandle" ∧ (parseMethodDescriptor y_Mo_fail.desc).map (fun d => d.parameters.length) = some 1 := by decide +kernel
theorem d_Mo_fail_0 : decode prog_13_method_15_code 0 = .ok (.aload_n 0, 1) := by decide +kernel
theorem d_Mo_fail_1 : decode prog_13_method_15_code 1 = .ok (.getfield 143, 3) := by decide +kernel
theorem d_Mo_fail_4 : decode prog_13_method_15_code 4 = .ok (.ifCond .le 4, 3) := by decide +kernel
theorem d_Mo_fail_7 : decode prog_13_method_15_code 7 = .ok (.return_, 1) := by decide +kernel
theorem d_Mo_fail_8 : decode prog_13_method_15_code 8 = .ok (.aload_n 0, 1) := by decide +kernel
theorem d_Mo_fail_9 : decode prog_13_method_15_code 9 = .ok (.iload_n 1, 1) := by decide +kernel
theorem d_Mo_fail_10 : decode prog_13_method_15_code 10 = .ok (.putfield 143, 3) := by decide +kernel
theorem d_Mo_fail_13 : decode prog_13_method_15_code 13 = .ok (.aload_n 0, 1) := by decide +kernel
theorem d_Mo_fail_14 : decode prog_13_method_15_code 14 = .ok (.aload_n 0, 1) := by decide +kernel
theorem d_Mo_fail_15 : decode prog_13_method_15_code 15 = .ok (.getfield 24, 3) := by decide +kernel
theorem d_Mo_fail_18 : decode prog_13_method_15_code 18 = .ok (.aload_n 0, 1) := by decide +kernel
theorem d_Mo_fail_19 : decode prog_13_method_15_code 19 = .ok (.getfield 146, 3) := by decide +kernel
theorem d_Mo_fail_22 : decode prog_13_method_15_code 22 = .ok (.iaload, 1) := by decide +kernel
theorem d_Mo_fail_23 : decode prog_13_method_15_code 23 = .ok (.putfield 149, 3) := by decide +kernel
theorem d_Mo_fail_26 : decode prog_13_method_15_code 26 = .ok (.return_, 1) := by decide +kernel
def wp_Mo_fail (x1 : Int32) (σ : sx_M) (τ : sx_L) (Q : sx_M → sx_L → Prop) : Prop := if σ 50 0 0 12 ≤ 0 then (∀ σ2 : sx_M, σ2 = sx_u σ 50 0 0 12 x1 → (vp_in (σ2 50 0 0 11) 403 ∧ (∀ σ4 : sx_M, σ4 = sx_u σ2 50 0 0 13 (σ2 54 0 0 (σ2 50 0 0 11).toNatClampNeg) → (Q σ4 τ)))) else (Q σ τ)
abbrev rm_Mo_fail : Room := { frames := 0, cells := 0, slots := 0, locals := 0 }
set_option maxRecDepth 100000 in
set_option maxHeartbeats 4000000 in
theorem c_Mo_fail {l : Launch} {K : sx_K} (hK : kx_F K) (x1 : Int32) (σ : sx_M) (τ : sx_L) (Q : sx_M → sx_L → Prop)  (h : wp_Mo_fail x1 σ τ Q) : Met l y_Mo_fail (sx_wd y_Mo_fail prog_13_method_15_code 2 none) rm_Mo_fail (sx_Pc K [.ref (K.2.2.1 50 0 0), .int x1] σ τ) (sx_Qv K Q) 0 0 (sx_A K) := by
  refine sx_met (by decide) (Nat.le_of_ble_eq_true rfl) (fun X hX hE => ?_)
  replace hX : sx_C X K prog_13_method_15_code 2 "SensorTreeModel" none rm_Mo_fail l := hX
  show sx_G X K 2 0 [(0, .ref (K.2.2.1 50 0 0)), (1, .int x1)] [] (sx_H K σ τ)
  unfold wp_Mo_fail at h
  refine sx_aload_n (pc2 := 1) hX 0 d_Mo_fail_0 rfl rfl rfl ?_
  refine fg_Mo_143 (pc2 := 4) hX (kr_50 hK) d_Mo_fail_1 rfl ?_
  refine sx_if_le (tgt := 8) (pc2 := 7) hX d_Mo_fail_4 (by decide) rfl (fun hc1 => ?_) (fun hc1 => ?_)
  · replace h := sx_t h hc1
    refine sx_aload_n (pc2 := 9) hX 0 d_Mo_fail_8 rfl rfl rfl ?_
    refine sx_iload_n (pc2 := 10) hX 1 d_Mo_fail_9 rfl rfl rfl ?_
    refine fp_Mo_143 (pc2 := 13) hX (kr_50 hK) d_Mo_fail_10 rfl ?_
    refine sx_nm (fun σ2 e2 => ?_)
    replace h := h σ2 e2
    refine sx_aload_n (pc2 := 14) hX 0 d_Mo_fail_13 rfl rfl rfl ?_
    refine sx_aload_n (pc2 := 15) hX 0 d_Mo_fail_14 rfl rfl rfl ?_
    refine fg_Mo_24 (pc2 := 18) hX (kr_50 hK) d_Mo_fail_15 rfl ?_
    refine sx_aload_n (pc2 := 19) hX 0 d_Mo_fail_18 rfl rfl rfl ?_
    refine fg_Mo_146 (pc2 := 22) hX (kr_50 hK) d_Mo_fail_19 rfl ?_
    obtain ⟨hc3, h⟩ := h
    refine sx_iald (pc2 := 23) hX (kr_54 hK) rfl hc3 d_Mo_fail_22 rfl ?_
    refine fp_Mo_149 (pc2 := 26) hX (kr_50 hK) d_Mo_fail_23 rfl ?_
    refine sx_nm (fun σ4 e4 => ?_)
    replace h := h σ4 e4
    exact sx_vret hX hE h d_Mo_fail_26
  · replace h := sx_f h hc1
    exact sx_vret hX hE h d_Mo_fail_7
theorem cl_Mo_158 {X : sx_T} {K : sx_K} {cc : ByteArray} {nL : Nat} {ret : Option FieldType} {rm : Room} {l : Launch} {pc pc2 : Nat} {lv : List (Nat × Value)} {st : List Value} {σ : sx_M} {τ : sx_L} {x1 : Int32} {Q : sx_M → sx_L → Prop} (hX : sx_C X K cc nL "SensorTreeModel" ret rm l) (hK : kx_F K) (h : wp_Mo_fail x1 σ τ Q)  (hR : rm_Mo_fail.frames + 1 ≤ rm.frames ∧ 8 + (2 + 11) + rm_Mo_fail.locals ≤ rm.locals) (hst : (st.map fun v => v.category).sum ≤ 8) (hd : decode cc pc = .ok (.invokevirtual 158, 3)) (hpc : pc + 3 = pc2) (kk : ∀ (σ2 : sx_M) (τ2 : sx_L), Q σ2 τ2 → sx_G X K nL pc2 lv (st) (sx_H K σ2 τ2)) : sx_G X K nL pc lv (.int x1 :: .ref (K.2.2.1 50 0 0) :: st) (sx_H K σ τ) :=
  sx_callVv (Q := Q) (As := [.int x1]) hX (c_Mo_fail hK x1 σ τ Q  h) (kr_50 hK) rfl rfl lk_388 ls_52 hy_Mo_fail lk_386 lk_364 lk_387 ⟨rfl, rfl⟩ hR hst rfl hd hpc kk
def y_Mo_wrong : MethodName := ⟨"SensorTreeModel", "wrong", "(II)V"⟩
theorem hy_Mo_wrong : y_Mo_wrong.cls ≠ "java/lang/invoke/MethodHandle" ∧ y_Mo_wrong.cls ≠ "java/lang/invoke/VarHandle" ∧ (parseMethodDescriptor y_Mo_wrong.desc).map (fun d => d.parameters.length) = some 2 := by decide +kernel
theorem d_Mo_wrong_0 : decode prog_13_method_16_code 0 = .ok (.aload_n 0, 1) := by decide +kernel
theorem d_Mo_wrong_1 : decode prog_13_method_16_code 1 = .ok (.getfield 24, 3) := by decide +kernel
theorem d_Mo_wrong_4 : decode prog_13_method_16_code 4 = .ok (.iload_n 2, 1) := by decide +kernel
theorem d_Mo_wrong_5 : decode prog_13_method_16_code 5 = .ok (.iaload, 1) := by decide +kernel
theorem d_Mo_wrong_6 : decode prog_13_method_16_code 6 = .ok (.istore_n 3, 1) := by decide +kernel
theorem d_Mo_wrong_7 : decode prog_13_method_16_code 7 = .ok (.aload_n 0, 1) := by decide +kernel
theorem d_Mo_wrong_8 : decode prog_13_method_16_code 8 = .ok (.getfield 143, 3) := by decide +kernel
theorem d_Mo_wrong_11 : decode prog_13_method_16_code 11 = .ok (.ifCond .gt 34, 3) := by decide +kernel
theorem d_Mo_wrong_14 : decode prog_13_method_16_code 14 = .ok (.aload_n 0, 1) := by decide +kernel
theorem d_Mo_wrong_15 : decode prog_13_method_16_code 15 = .ok (.getfield 152, 3) := by decide +kernel
theorem d_Mo_wrong_18 : decode prog_13_method_16_code 18 = .ok (.ifCond .eq 28, 3) := by decide +kernel
theorem d_Mo_wrong_21 : decode prog_13_method_16_code 21 = .ok (.iload_n 3, 1) := by decide +kernel
theorem d_Mo_wrong_22 : decode prog_13_method_16_code 22 = .ok (.aload_n 0, 1) := by decide +kernel
theorem d_Mo_wrong_23 : decode prog_13_method_16_code 23 = .ok (.getfield 155, 3) := by decide +kernel
theorem d_Mo_wrong_26 : decode prog_13_method_16_code 26 = .ok (.if_icmp .gt 19, 3) := by decide +kernel
theorem d_Mo_wrong_29 : decode prog_13_method_16_code 29 = .ok (.iload_n 3, 1) := by decide +kernel
theorem d_Mo_wrong_30 : decode prog_13_method_16_code 30 = .ok (.aload_n 0, 1) := by decide +kernel
theorem d_Mo_wrong_31 : decode prog_13_method_16_code 31 = .ok (.getfield 155, 3) := by decide +kernel
theorem d_Mo_wrong_34 : decode prog_13_method_16_code 34 = .ok (.if_icmp .ne 12, 3) := by decide +kernel
theorem d_Mo_wrong_37 : decode prog_13_method_16_code 37 = .ok (.iload_n 1, 1) := by decide +kernel
theorem d_Mo_wrong_38 : decode prog_13_method_16_code 38 = .ok (.aload_n 0, 1) := by decide +kernel
theorem d_Mo_wrong_39 : decode prog_13_method_16_code 39 = .ok (.getfield 152, 3) := by decide +kernel
theorem d_Mo_wrong_42 : decode prog_13_method_16_code 42 = .ok (.if_icmp .lt 4, 3) := by decide +kernel
theorem d_Mo_wrong_45 : decode prog_13_method_16_code 45 = .ok (.return_, 1) := by decide +kernel
theorem d_Mo_wrong_46 : decode prog_13_method_16_code 46 = .ok (.aload_n 0, 1) := by decide +kernel
theorem d_Mo_wrong_47 : decode prog_13_method_16_code 47 = .ok (.iload_n 1, 1) := by decide +kernel
theorem d_Mo_wrong_48 : decode prog_13_method_16_code 48 = .ok (.putfield 152, 3) := by decide +kernel
theorem d_Mo_wrong_51 : decode prog_13_method_16_code 51 = .ok (.aload_n 0, 1) := by decide +kernel
theorem d_Mo_wrong_52 : decode prog_13_method_16_code 52 = .ok (.iload_n 3, 1) := by decide +kernel
theorem d_Mo_wrong_53 : decode prog_13_method_16_code 53 = .ok (.putfield 155, 3) := by decide +kernel
theorem d_Mo_wrong_56 : decode prog_13_method_16_code 56 = .ok (.return_, 1) := by decide +kernel
def wp_Mo_wrong_b46   (Q : sx_M → sx_L → Prop) (v1 : Int32) (v3 : Int32) (σ : sx_M) (τ : sx_L) : Prop := ∀ σ1 : sx_M, σ1 = sx_u σ 50 0 0 14 v1 → (∀ σ2 : sx_M, σ2 = sx_u σ1 50 0 0 15 v3 → (Q σ2 τ))
def wp_Mo_wrong_b45   (Q : sx_M → sx_L → Prop)  (σ : sx_M) (τ : sx_L) : Prop := Q σ τ
def wp_Mo_wrong (x1 : Int32) (x2 : Int32) (σ : sx_M) (τ : sx_L) (Q : sx_M → sx_L → Prop) : Prop := vp_in x2 403 ∧ (if 0 < σ 50 0 0 12 then (wp_Mo_wrong_b45 Q σ τ) else (if σ 50 0 0 14 = 0 then (wp_Mo_wrong_b46 Q x1 (σ 54 0 0 x2.toNatClampNeg) σ τ) else (if σ 50 0 0 15 < σ 54 0 0 x2.toNatClampNeg then (wp_Mo_wrong_b45 Q σ τ) else (if σ 54 0 0 x2.toNatClampNeg = σ 50 0 0 15 then (if x1 < σ 50 0 0 14 then (wp_Mo_wrong_b46 Q x1 (σ 54 0 0 x2.toNatClampNeg) σ τ) else (wp_Mo_wrong_b45 Q σ τ)) else (wp_Mo_wrong_b46 Q x1 (σ 54 0 0 x2.toNatClampNeg) σ τ)))))
abbrev rm_Mo_wrong : Room := { frames := 0, cells := 0, slots := 0, locals := 0 }
set_option maxRecDepth 100000 in
set_option maxHeartbeats 4000000 in
theorem g_Mo_wrong_b46 {l : Launch} {K : sx_K} {X : sx_T}   {Q : sx_M → sx_L → Prop} (hX : sx_C X K prog_13_method_16_code 4 "SensorTreeModel" none rm_Mo_wrong l) (hK : kx_F K) (hE : sx_E X K (sx_Qv K Q))  (v1 : Int32) (v3 : Int32) (σ : sx_M) (τ : sx_L)  (h : wp_Mo_wrong_b46 Q  v1 v3 σ τ) : sx_G X K 4 46 [(0, .ref (K.2.2.1 50 0 0)), (1, .int v1), (3, .int v3)] [] (sx_H K σ τ) := by
  unfold wp_Mo_wrong_b46 at h
  refine sx_aload_n (pc2 := 47) hX 0 d_Mo_wrong_46 rfl rfl rfl ?_
  refine sx_iload_n (pc2 := 48) hX 1 d_Mo_wrong_47 rfl rfl rfl ?_
  refine fp_Mo_152 (pc2 := 51) hX (kr_50 hK) d_Mo_wrong_48 rfl ?_
  refine sx_nm (fun σ1 e1 => ?_)
  replace h := h σ1 e1
  refine sx_aload_n (pc2 := 52) hX 0 d_Mo_wrong_51 rfl rfl rfl ?_
  refine sx_iload_n (pc2 := 53) hX 2 d_Mo_wrong_52 rfl rfl rfl ?_
  refine fp_Mo_155 (pc2 := 56) hX (kr_50 hK) d_Mo_wrong_53 rfl ?_
  refine sx_nm (fun σ2 e2 => ?_)
  replace h := h σ2 e2
  exact sx_vret hX hE h d_Mo_wrong_56
set_option maxRecDepth 100000 in
set_option maxHeartbeats 4000000 in
theorem g_Mo_wrong_b45 {l : Launch} {K : sx_K} {X : sx_T}   {Q : sx_M → sx_L → Prop} (hX : sx_C X K prog_13_method_16_code 4 "SensorTreeModel" none rm_Mo_wrong l) (hK : kx_F K) (hE : sx_E X K (sx_Qv K Q))   (σ : sx_M) (τ : sx_L)  (h : wp_Mo_wrong_b45 Q  σ τ) : sx_G X K 4 45 [] [] (sx_H K σ τ) := by
  unfold wp_Mo_wrong_b45 at h
  exact sx_vret hX hE h d_Mo_wrong_45
set_option maxRecDepth 100000 in
set_option maxHeartbeats 4000000 in
theorem c_Mo_wrong {l : Launch} {K : sx_K} (hK : kx_F K) (x1 : Int32) (x2 : Int32) (σ : sx_M) (τ : sx_L) (Q : sx_M → sx_L → Prop)  (h : wp_Mo_wrong x1 x2 σ τ Q) : Met l y_Mo_wrong (sx_wd y_Mo_wrong prog_13_method_16_code 4 none) rm_Mo_wrong (sx_Pc K [.ref (K.2.2.1 50 0 0), .int x1, .int x2] σ τ) (sx_Qv K Q) 0 0 (sx_A K) := by
  refine sx_met (by decide) (Nat.le_of_ble_eq_true rfl) (fun X hX hE => ?_)
  replace hX : sx_C X K prog_13_method_16_code 4 "SensorTreeModel" none rm_Mo_wrong l := hX
  show sx_G X K 4 0 [(0, .ref (K.2.2.1 50 0 0)), (1, .int x1), (2, .int x2)] [] (sx_H K σ τ)
  unfold wp_Mo_wrong at h
  refine sx_aload_n (pc2 := 1) hX 0 d_Mo_wrong_0 rfl rfl rfl ?_
  refine fg_Mo_24 (pc2 := 4) hX (kr_50 hK) d_Mo_wrong_1 rfl ?_
  refine sx_iload_n (pc2 := 5) hX 2 d_Mo_wrong_4 rfl rfl rfl ?_
  obtain ⟨hc3, h⟩ := h
  refine sx_iald (pc2 := 6) hX (kr_54 hK) rfl hc3 d_Mo_wrong_5 rfl ?_
  refine sx_istore_n (pc2 := 7) hX _ [(0, .ref (K.2.2.1 50 0 0)), (1, .int x1), (2, .int x2), (3, .int (σ 54 0 0 x2.toNatClampNeg))] [1, 2, 3, 0] d_Mo_wrong_6 rfl (by decide) rfl rfl rfl ?_
  refine sx_aload_n (pc2 := 8) hX 0 d_Mo_wrong_7 rfl rfl rfl ?_
  refine fg_Mo_143 (pc2 := 11) hX (kr_50 hK) d_Mo_wrong_8 rfl ?_
  refine sx_if_gt (tgt := 45) (pc2 := 14) hX d_Mo_wrong_11 (by decide) rfl (fun hc4 => ?_) (fun hc4 => ?_)
  · replace h := sx_t h hc4
    refine sx_sub [] [] rfl ?_
    exact g_Mo_wrong_b45 hX hK hE   _ _ h
  · replace h := sx_f h hc4
    refine sx_aload_n (pc2 := 15) hX 0 d_Mo_wrong_14 rfl rfl rfl ?_
    refine fg_Mo_152 (pc2 := 18) hX (kr_50 hK) d_Mo_wrong_15 rfl ?_
    refine sx_if_eq (tgt := 46) (pc2 := 21) hX d_Mo_wrong_18 (by decide) rfl (fun hc5 => ?_) (fun hc5 => ?_)
    · replace h := sx_t h hc5
      refine sx_sub [(0, .ref (K.2.2.1 50 0 0)), (1, .int x1), (3, .int (σ 54 0 0 x2.toNatClampNeg))] [0, 1, 3] rfl ?_
      exact g_Mo_wrong_b46 hX hK hE   x1 (σ 54 0 0 x2.toNatClampNeg) _ _ h
    · replace h := sx_f h hc5
      refine sx_iload_n (pc2 := 22) hX 3 d_Mo_wrong_21 rfl rfl rfl ?_
      refine sx_aload_n (pc2 := 23) hX 0 d_Mo_wrong_22 rfl rfl rfl ?_
      refine fg_Mo_155 (pc2 := 26) hX (kr_50 hK) d_Mo_wrong_23 rfl ?_
      refine sx_icmp_gt (tgt := 45) (pc2 := 29) hX d_Mo_wrong_26 (by decide) rfl (fun hc6 => ?_) (fun hc6 => ?_)
      · replace h := sx_t h hc6
        refine sx_sub [] [] rfl ?_
        exact g_Mo_wrong_b45 hX hK hE   _ _ h
      · replace h := sx_f h hc6
        refine sx_iload_n (pc2 := 30) hX 3 d_Mo_wrong_29 rfl rfl rfl ?_
        refine sx_aload_n (pc2 := 31) hX 0 d_Mo_wrong_30 rfl rfl rfl ?_
        refine fg_Mo_155 (pc2 := 34) hX (kr_50 hK) d_Mo_wrong_31 rfl ?_
        refine sx_icmp_ne (tgt := 46) (pc2 := 37) hX d_Mo_wrong_34 (by decide) rfl (fun hc7 => ?_) (fun hc7 => ?_)
        · replace h := sx_f h hc7
          refine sx_sub [(0, .ref (K.2.2.1 50 0 0)), (1, .int x1), (3, .int (σ 54 0 0 x2.toNatClampNeg))] [0, 1, 3] rfl ?_
          exact g_Mo_wrong_b46 hX hK hE   x1 (σ 54 0 0 x2.toNatClampNeg) _ _ h
        · replace h := sx_t h hc7
          refine sx_iload_n (pc2 := 38) hX 1 d_Mo_wrong_37 rfl rfl rfl ?_
          refine sx_aload_n (pc2 := 39) hX 0 d_Mo_wrong_38 rfl rfl rfl ?_
          refine fg_Mo_152 (pc2 := 42) hX (kr_50 hK) d_Mo_wrong_39 rfl ?_
          refine sx_icmp_lt (tgt := 46) (pc2 := 45) hX d_Mo_wrong_42 (by decide) rfl (fun hc8 => ?_) (fun hc8 => ?_)
          · replace h := sx_t h hc8
            refine sx_sub [(0, .ref (K.2.2.1 50 0 0)), (1, .int x1), (3, .int (σ 54 0 0 x2.toNatClampNeg))] [0, 1, 3] rfl ?_
            exact g_Mo_wrong_b46 hX hK hE   x1 (σ 54 0 0 x2.toNatClampNeg) _ _ h
          · replace h := sx_f h hc8
            refine sx_sub [] [] rfl ?_
            exact g_Mo_wrong_b45 hX hK hE   _ _ h
theorem cl_Mo_182 {X : sx_T} {K : sx_K} {cc : ByteArray} {nL : Nat} {ret : Option FieldType} {rm : Room} {l : Launch} {pc pc2 : Nat} {lv : List (Nat × Value)} {st : List Value} {σ : sx_M} {τ : sx_L} {x1 : Int32} {x2 : Int32} {Q : sx_M → sx_L → Prop} (hX : sx_C X K cc nL "SensorTreeModel" ret rm l) (hK : kx_F K) (h : wp_Mo_wrong x1 x2 σ τ Q)  (hR : rm_Mo_wrong.frames + 1 ≤ rm.frames ∧ 8 + (4 + 11) + rm_Mo_wrong.locals ≤ rm.locals) (hst : (st.map fun v => v.category).sum ≤ 8) (hd : decode cc pc = .ok (.invokevirtual 182, 3)) (hpc : pc + 3 = pc2) (kk : ∀ (σ2 : sx_M) (τ2 : sx_L), Q σ2 τ2 → sx_G X K nL pc2 lv (st) (sx_H K σ2 τ2)) : sx_G X K nL pc lv (.int x2 :: .int x1 :: .ref (K.2.2.1 50 0 0) :: st) (sx_H K σ τ) :=
  sx_callVv (Q := Q) (As := [.int x1, .int x2]) hX (c_Mo_wrong hK x1 x2 σ τ Q  h) (kr_50 hK) rfl rfl lk_400 ls_57 hy_Mo_wrong lk_398 lk_364 lk_399 ⟨rfl, rfl⟩ hR hst rfl hd hpc kk
def y_Mo_goesOn : MethodName := ⟨"SensorTreeModel", "goesOn", "()V"⟩
theorem hy_Mo_goesOn : y_Mo_goesOn.cls ≠ "java/lang/invoke/MethodHandle" ∧ y_Mo_goesOn.cls ≠ "java/lang/invoke/VarHandle" ∧ (parseMethodDescriptor y_Mo_goesOn.desc).map (fun d => d.parameters.length) = some 0 := by decide +kernel
theorem d_Mo_goesOn_0 : decode prog_13_method_17_code 0 = .ok (.aload_n 0, 1) := by decide +kernel
theorem d_Mo_goesOn_1 : decode prog_13_method_17_code 1 = .ok (.getfield 146, 3) := by decide +kernel
theorem d_Mo_goesOn_4 : decode prog_13_method_17_code 4 = .ok (.sipush 400, 3) := by decide +kernel
theorem d_Mo_goesOn_7 : decode prog_13_method_17_code 7 = .ok (.if_icmp .ne 11, 3) := by decide +kernel
theorem d_Mo_goesOn_10 : decode prog_13_method_17_code 10 = .ok (.aload_n 0, 1) := by decide +kernel
theorem d_Mo_goesOn_11 : decode prog_13_method_17_code 11 = .ok (.iconst 2, 1) := by decide +kernel
theorem d_Mo_goesOn_12 : decode prog_13_method_17_code 12 = .ok (.invokevirtual 158, 3) := by decide +kernel
theorem d_Mo_goesOn_15 : decode prog_13_method_17_code 15 = .ok (.goto 13, 3) := by decide +kernel
theorem d_Mo_goesOn_18 : decode prog_13_method_17_code 18 = .ok (.aload_n 0, 1) := by decide +kernel
theorem d_Mo_goesOn_19 : decode prog_13_method_17_code 19 = .ok (.dup, 1) := by decide +kernel
theorem d_Mo_goesOn_20 : decode prog_13_method_17_code 20 = .ok (.getfield 146, 3) := by decide +kernel
theorem d_Mo_goesOn_23 : decode prog_13_method_17_code 23 = .ok (.iconst 1, 1) := by decide +kernel
theorem d_Mo_goesOn_24 : decode prog_13_method_17_code 24 = .ok (.iadd, 1) := by decide +kernel
theorem d_Mo_goesOn_25 : decode prog_13_method_17_code 25 = .ok (.putfield 146, 3) := by decide +kernel
theorem d_Mo_goesOn_28 : decode prog_13_method_17_code 28 = .ok (.return_, 1) := by decide +kernel
def wp_Mo_goesOn_b28   (Q : sx_M → sx_L → Prop)  (σ : sx_M) (τ : sx_L) : Prop := Q σ τ
def wp_Mo_goesOn  (σ : sx_M) (τ : sx_L) (Q : sx_M → sx_L → Prop) : Prop := if σ 50 0 0 11 = 400 then (wp_Mo_fail (2 : Int32) σ τ (fun σ3 τ3 => wp_Mo_goesOn_b28 Q σ3 τ3)) else (∀ σ2 : sx_M, σ2 = sx_u σ 50 0 0 11 ((σ 50 0 0 11) + 1) → (wp_Mo_goesOn_b28 Q σ2 τ))
abbrev rm_Mo_goesOn : Room := { frames := 1, cells := 0, slots := 0, locals := 21 }
set_option maxRecDepth 100000 in
set_option maxHeartbeats 4000000 in
theorem g_Mo_goesOn_b28 {l : Launch} {K : sx_K} {X : sx_T}   {Q : sx_M → sx_L → Prop} (hX : sx_C X K prog_13_method_17_code 1 "SensorTreeModel" none rm_Mo_goesOn l) (hK : kx_F K) (hE : sx_E X K (sx_Qv K Q))   (σ : sx_M) (τ : sx_L)  (h : wp_Mo_goesOn_b28 Q  σ τ) : sx_G X K 1 28 [] [] (sx_H K σ τ) := by
  unfold wp_Mo_goesOn_b28 at h
  exact sx_vret hX hE h d_Mo_goesOn_28
set_option maxRecDepth 100000 in
set_option maxHeartbeats 4000000 in
theorem c_Mo_goesOn {l : Launch} {K : sx_K} (hK : kx_F K)  (σ : sx_M) (τ : sx_L) (Q : sx_M → sx_L → Prop)  (h : wp_Mo_goesOn σ τ Q) : Met l y_Mo_goesOn (sx_wd y_Mo_goesOn prog_13_method_17_code 1 none) rm_Mo_goesOn (sx_Pc K [.ref (K.2.2.1 50 0 0)] σ τ) (sx_Qv K Q) 0 0 (sx_A K) := by
  refine sx_met (by decide) (Nat.le_of_ble_eq_true rfl) (fun X hX hE => ?_)
  replace hX : sx_C X K prog_13_method_17_code 1 "SensorTreeModel" none rm_Mo_goesOn l := hX
  show sx_G X K 1 0 [(0, .ref (K.2.2.1 50 0 0))] [] (sx_H K σ τ)
  unfold wp_Mo_goesOn at h
  refine sx_aload_n (pc2 := 1) hX 0 d_Mo_goesOn_0 rfl rfl rfl ?_
  refine fg_Mo_146 (pc2 := 4) hX (kr_50 hK) d_Mo_goesOn_1 rfl ?_
  refine sx_sipush (v := 400) (pc2 := 7) hX d_Mo_goesOn_4 (by decide) rfl ?_
  refine sx_icmp_ne (tgt := 18) (pc2 := 10) hX d_Mo_goesOn_7 (by decide) rfl (fun hc1 => ?_) (fun hc1 => ?_)
  · replace h := sx_f h hc1
    refine sx_aload_n (pc2 := 19) hX 0 d_Mo_goesOn_18 rfl rfl rfl ?_
    refine sx_dup (pc2 := 20) hX d_Mo_goesOn_19 rfl rfl ?_
    refine fg_Mo_146 (pc2 := 23) hX (kr_50 hK) d_Mo_goesOn_20 rfl ?_
    refine sx_iconst (v := 1) (pc2 := 24) hX d_Mo_goesOn_23 (by decide) rfl ?_
    refine sx_iadd (pc2 := 25) hX d_Mo_goesOn_24 rfl ?_
    refine fp_Mo_146 (pc2 := 28) hX (kr_50 hK) d_Mo_goesOn_25 rfl ?_
    refine sx_nm (fun σ2 e2 => ?_)
    replace h := h σ2 e2
    refine sx_sub [] [] rfl ?_
    exact g_Mo_goesOn_b28 hX hK hE   _ _ h
  · replace h := sx_t h hc1
    refine sx_aload_n (pc2 := 11) hX 0 d_Mo_goesOn_10 rfl rfl rfl ?_
    refine sx_iconst (v := 2) (pc2 := 12) hX d_Mo_goesOn_11 (by decide) rfl ?_
    refine cl_Mo_158 (pc2 := 15) hX hK h  ⟨Nat.le_of_ble_eq_true rfl, Nat.le_of_ble_eq_true rfl⟩ (Nat.le_of_ble_eq_true rfl) d_Mo_goesOn_12 rfl (fun σ3 τ3 h => ?_)
    refine sx_goto (tgt := 28) hX d_Mo_goesOn_15 (by decide) ?_
    refine sx_sub [] [] rfl ?_
    exact g_Mo_goesOn_b28 hX hK hE   _ _ h
theorem cl_Mo_164 {X : sx_T} {K : sx_K} {cc : ByteArray} {nL : Nat} {ret : Option FieldType} {rm : Room} {l : Launch} {pc pc2 : Nat} {lv : List (Nat × Value)} {st : List Value} {σ : sx_M} {τ : sx_L}  {Q : sx_M → sx_L → Prop} (hX : sx_C X K cc nL "SensorTreeModel" ret rm l) (hK : kx_F K) (h : wp_Mo_goesOn  σ τ Q)  (hR : rm_Mo_goesOn.frames + 1 ≤ rm.frames ∧ 8 + (1 + 11) + rm_Mo_goesOn.locals ≤ rm.locals) (hst : (st.map fun v => v.category).sum ≤ 8) (hd : decode cc pc = .ok (.invokevirtual 164, 3)) (hpc : pc + 3 = pc2) (kk : ∀ (σ2 : sx_M) (τ2 : sx_L), Q σ2 τ2 → sx_G X K nL pc2 lv (st) (sx_H K σ2 τ2)) : sx_G X K nL pc lv (.ref (K.2.2.1 50 0 0) :: st) (sx_H K σ τ) :=
  sx_callVv (Q := Q) (As := []) hX (c_Mo_goesOn hK  σ τ Q  h) (kr_50 hK) rfl rfl lk_394 ls_54 hy_Mo_goesOn lk_392 lk_364 lk_393 ⟨rfl, rfl⟩ hR hst rfl hd hpc kk
def y_Mo_must : MethodName := ⟨"SensorTreeModel", "must", "(I)V"⟩
theorem hy_Mo_must : y_Mo_must.cls ≠ "java/lang/invoke/MethodHandle" ∧ y_Mo_must.cls ≠ "java/lang/invoke/VarHandle" ∧ (parseMethodDescriptor y_Mo_must.desc).map (fun d => d.parameters.length) = some 1 := by decide +kernel
theorem d_Mo_must_0 : decode prog_13_method_18_code 0 = .ok (.aload_n 0, 1) := by decide +kernel
theorem d_Mo_must_1 : decode prog_13_method_18_code 1 = .ok (.iload_n 1, 1) := by decide +kernel
theorem d_Mo_must_2 : decode prog_13_method_18_code 2 = .ok (.invokevirtual 161, 3) := by decide +kernel
theorem d_Mo_must_5 : decode prog_13_method_18_code 5 = .ok (.ifCond .eq 10, 3) := by decide +kernel
theorem d_Mo_must_8 : decode prog_13_method_18_code 8 = .ok (.aload_n 0, 1) := by decide +kernel
theorem d_Mo_must_9 : decode prog_13_method_18_code 9 = .ok (.invokevirtual 164, 3) := by decide +kernel
theorem d_Mo_must_12 : decode prog_13_method_18_code 12 = .ok (.goto 8, 3) := by decide +kernel
theorem d_Mo_must_15 : decode prog_13_method_18_code 15 = .ok (.aload_n 0, 1) := by decide +kernel
theorem d_Mo_must_16 : decode prog_13_method_18_code 16 = .ok (.iconst 1, 1) := by decide +kernel
theorem d_Mo_must_17 : decode prog_13_method_18_code 17 = .ok (.invokevirtual 158, 3) := by decide +kernel
theorem d_Mo_must_20 : decode prog_13_method_18_code 20 = .ok (.return_, 1) := by decide +kernel
def wp_Mo_must_b20   (Q : sx_M → sx_L → Prop)  (σ : sx_M) (τ : sx_L) : Prop := Q σ τ
def wp_Mo_must (x1 : Int32) (σ : sx_M) (τ : sx_L) (Q : sx_M → sx_L → Prop) : Prop := wp_Mo_is x1 σ τ (fun r1 σ1 τ1 => if r1 = 0 then (wp_Mo_fail (1 : Int32) σ1 τ1 (fun σ3 τ3 => wp_Mo_must_b20 Q σ3 τ3)) else (wp_Mo_goesOn σ1 τ1 (fun σ4 τ4 => wp_Mo_must_b20 Q σ4 τ4)))
abbrev rm_Mo_must : Room := { frames := 2, cells := 0, slots := 0, locals := 41 }
set_option maxRecDepth 100000 in
set_option maxHeartbeats 4000000 in
theorem g_Mo_must_b20 {l : Launch} {K : sx_K} {X : sx_T}   {Q : sx_M → sx_L → Prop} (hX : sx_C X K prog_13_method_18_code 2 "SensorTreeModel" none rm_Mo_must l) (hK : kx_F K) (hE : sx_E X K (sx_Qv K Q))   (σ : sx_M) (τ : sx_L)  (h : wp_Mo_must_b20 Q  σ τ) : sx_G X K 2 20 [] [] (sx_H K σ τ) := by
  unfold wp_Mo_must_b20 at h
  exact sx_vret hX hE h d_Mo_must_20
set_option maxRecDepth 100000 in
set_option maxHeartbeats 4000000 in
theorem c_Mo_must {l : Launch} {K : sx_K} (hK : kx_F K) (x1 : Int32) (σ : sx_M) (τ : sx_L) (Q : sx_M → sx_L → Prop)  (h : wp_Mo_must x1 σ τ Q) : Met l y_Mo_must (sx_wd y_Mo_must prog_13_method_18_code 2 none) rm_Mo_must (sx_Pc K [.ref (K.2.2.1 50 0 0), .int x1] σ τ) (sx_Qv K Q) 0 0 (sx_A K) := by
  refine sx_met (by decide) (Nat.le_of_ble_eq_true rfl) (fun X hX hE => ?_)
  replace hX : sx_C X K prog_13_method_18_code 2 "SensorTreeModel" none rm_Mo_must l := hX
  show sx_G X K 2 0 [(0, .ref (K.2.2.1 50 0 0)), (1, .int x1)] [] (sx_H K σ τ)
  unfold wp_Mo_must at h
  refine sx_aload_n (pc2 := 1) hX 0 d_Mo_must_0 rfl rfl rfl ?_
  refine sx_iload_n (pc2 := 2) hX 1 d_Mo_must_1 rfl rfl rfl ?_
  refine cl_Mo_161 (pc2 := 5) hX hK h  ⟨Nat.le_of_ble_eq_true rfl, Nat.le_of_ble_eq_true rfl⟩ (Nat.le_of_ble_eq_true rfl) d_Mo_must_2 rfl (fun r1 σ1 τ1 h => ?_)
  refine sx_if_eq (tgt := 15) (pc2 := 8) hX d_Mo_must_5 (by decide) rfl (fun hc2 => ?_) (fun hc2 => ?_)
  · replace h := sx_t h hc2
    refine sx_aload_n (pc2 := 16) hX 0 d_Mo_must_15 rfl rfl rfl ?_
    refine sx_iconst (v := 1) (pc2 := 17) hX d_Mo_must_16 (by decide) rfl ?_
    refine cl_Mo_158 (pc2 := 20) hX hK h  ⟨Nat.le_of_ble_eq_true rfl, Nat.le_of_ble_eq_true rfl⟩ (Nat.le_of_ble_eq_true rfl) d_Mo_must_17 rfl (fun σ3 τ3 h => ?_)
    refine sx_sub [] [] rfl ?_
    exact g_Mo_must_b20 hX hK hE   _ _ h
  · replace h := sx_f h hc2
    refine sx_aload_n (pc2 := 9) hX 0 d_Mo_must_8 rfl rfl rfl ?_
    refine cl_Mo_164 (pc2 := 12) hX hK h  ⟨Nat.le_of_ble_eq_true rfl, Nat.le_of_ble_eq_true rfl⟩ (Nat.le_of_ble_eq_true rfl) d_Mo_must_9 rfl (fun σ4 τ4 h => ?_)
    refine sx_goto (tgt := 20) hX d_Mo_must_12 (by decide) ?_
    refine sx_sub [] [] rfl ?_
    exact g_Mo_must_b20 hX hK hE   _ _ h
theorem cl_Mo_209 {X : sx_T} {K : sx_K} {cc : ByteArray} {nL : Nat} {ret : Option FieldType} {rm : Room} {l : Launch} {pc pc2 : Nat} {lv : List (Nat × Value)} {st : List Value} {σ : sx_M} {τ : sx_L} {x1 : Int32} {Q : sx_M → sx_L → Prop} (hX : sx_C X K cc nL "SensorTreeModel" ret rm l) (hK : kx_F K) (h : wp_Mo_must x1 σ τ Q)  (hR : rm_Mo_must.frames + 1 ≤ rm.frames ∧ 8 + (2 + 11) + rm_Mo_must.locals ≤ rm.locals) (hst : (st.map fun v => v.category).sum ≤ 8) (hd : decode cc pc = .ok (.invokevirtual 209, 3)) (hpc : pc + 3 = pc2) (kk : ∀ (σ2 : sx_M) (τ2 : sx_L), Q σ2 τ2 → sx_G X K nL pc2 lv (st) (sx_H K σ2 τ2)) : sx_G X K nL pc lv (.int x1 :: .ref (K.2.2.1 50 0 0) :: st) (sx_H K σ τ) :=
  sx_callVv (Q := Q) (As := [.int x1]) hX (c_Mo_must hK x1 σ τ Q  h) (kr_50 hK) rfl rfl lk_409 ls_61 hy_Mo_must lk_407 lk_364 lk_408 ⟨rfl, rfl⟩ hR hst rfl hd hpc kk
def y_Mo_plain : MethodName := ⟨"SensorTreeModel", "plain", "(I)V"⟩
theorem hy_Mo_plain : y_Mo_plain.cls ≠ "java/lang/invoke/MethodHandle" ∧ y_Mo_plain.cls ≠ "java/lang/invoke/VarHandle" ∧ (parseMethodDescriptor y_Mo_plain.desc).map (fun d => d.parameters.length) = some 1 := by decide +kernel
theorem d_Mo_plain_0 : decode prog_13_method_19_code 0 = .ok (.aload_n 0, 1) := by decide +kernel
theorem d_Mo_plain_1 : decode prog_13_method_19_code 1 = .ok (.getfield 40, 3) := by decide +kernel
theorem d_Mo_plain_4 : decode prog_13_method_19_code 4 = .ok (.iload_n 1, 1) := by decide +kernel
theorem d_Mo_plain_5 : decode prog_13_method_19_code 5 = .ok (.iconst 0, 1) := by decide +kernel
theorem d_Mo_plain_6 : decode prog_13_method_19_code 6 = .ok (.iastore, 1) := by decide +kernel
theorem d_Mo_plain_7 : decode prog_13_method_19_code 7 = .ok (.aload_n 0, 1) := by decide +kernel
theorem d_Mo_plain_8 : decode prog_13_method_19_code 8 = .ok (.getfield 43, 3) := by decide +kernel
theorem d_Mo_plain_11 : decode prog_13_method_19_code 11 = .ok (.iload_n 1, 1) := by decide +kernel
theorem d_Mo_plain_12 : decode prog_13_method_19_code 12 = .ok (.iconst 0, 1) := by decide +kernel
theorem d_Mo_plain_13 : decode prog_13_method_19_code 13 = .ok (.iastore, 1) := by decide +kernel
theorem d_Mo_plain_14 : decode prog_13_method_19_code 14 = .ok (.aload_n 0, 1) := by decide +kernel
theorem d_Mo_plain_15 : decode prog_13_method_19_code 15 = .ok (.getfield 61, 3) := by decide +kernel
theorem d_Mo_plain_18 : decode prog_13_method_19_code 18 = .ok (.iload_n 1, 1) := by decide +kernel
theorem d_Mo_plain_19 : decode prog_13_method_19_code 19 = .ok (.iconst 0, 1) := by decide +kernel
theorem d_Mo_plain_20 : decode prog_13_method_19_code 20 = .ok (.bastore, 1) := by decide +kernel
theorem d_Mo_plain_21 : decode prog_13_method_19_code 21 = .ok (.bipush 49, 2) := by decide +kernel
theorem d_Mo_plain_23 : decode prog_13_method_19_code 23 = .ok (.iload_n 1, 1) := by decide +kernel
theorem d_Mo_plain_24 : decode prog_13_method_19_code 24 = .ok (.imul, 1) := by decide +kernel
theorem d_Mo_plain_25 : decode prog_13_method_19_code 25 = .ok (.istore_n 2, 1) := by decide +kernel
theorem d_Mo_plain_26 : decode prog_13_method_19_code 26 = .ok (.iload_n 2, 1) := by decide +kernel
theorem d_Mo_plain_27 : decode prog_13_method_19_code 27 = .ok (.bipush 49, 2) := by decide +kernel
theorem d_Mo_plain_29 : decode prog_13_method_19_code 29 = .ok (.iload_n 1, 1) := by decide +kernel
theorem d_Mo_plain_30 : decode prog_13_method_19_code 30 = .ok (.imul, 1) := by decide +kernel
theorem d_Mo_plain_31 : decode prog_13_method_19_code 31 = .ok (.bipush 49, 2) := by decide +kernel
theorem d_Mo_plain_33 : decode prog_13_method_19_code 33 = .ok (.iadd, 1) := by decide +kernel
theorem d_Mo_plain_34 : decode prog_13_method_19_code 34 = .ok (.if_icmp .ge 16, 3) := by decide +kernel
theorem d_Mo_plain_37 : decode prog_13_method_19_code 37 = .ok (.aload_n 0, 1) := by decide +kernel
theorem d_Mo_plain_38 : decode prog_13_method_19_code 38 = .ok (.getfield 58, 3) := by decide +kernel
theorem d_Mo_plain_41 : decode prog_13_method_19_code 41 = .ok (.iload_n 2, 1) := by decide +kernel
theorem d_Mo_plain_42 : decode prog_13_method_19_code 42 = .ok (.iconst (-1), 1) := by decide +kernel
theorem d_Mo_plain_43 : decode prog_13_method_19_code 43 = .ok (.iastore, 1) := by decide +kernel
theorem d_Mo_plain_44 : decode prog_13_method_19_code 44 = .ok (.iinc 2 1, 3) := by decide +kernel
theorem d_Mo_plain_47 : decode prog_13_method_19_code 47 = .ok (.goto (-21), 3) := by decide +kernel
theorem d_Mo_plain_50 : decode prog_13_method_19_code 50 = .ok (.bipush 9, 2) := by decide +kernel
theorem d_Mo_plain_52 : decode prog_13_method_19_code 52 = .ok (.iload_n 1, 1) := by decide +kernel
theorem d_Mo_plain_53 : decode prog_13_method_19_code 53 = .ok (.imul, 1) := by decide +kernel
theorem d_Mo_plain_54 : decode prog_13_method_19_code 54 = .ok (.istore_n 2, 1) := by decide +kernel
theorem d_Mo_plain_55 : decode prog_13_method_19_code 55 = .ok (.aload_n 0, 1) := by decide +kernel
theorem d_Mo_plain_56 : decode prog_13_method_19_code 56 = .ok (.getfield 65, 3) := by decide +kernel
theorem d_Mo_plain_59 : decode prog_13_method_19_code 59 = .ok (.iload_n 2, 1) := by decide +kernel
theorem d_Mo_plain_60 : decode prog_13_method_19_code 60 = .ok (.iconst 4, 1) := by decide +kernel
theorem d_Mo_plain_61 : decode prog_13_method_19_code 61 = .ok (.iastore, 1) := by decide +kernel
theorem d_Mo_plain_62 : decode prog_13_method_19_code 62 = .ok (.aload_n 0, 1) := by decide +kernel
theorem d_Mo_plain_63 : decode prog_13_method_19_code 63 = .ok (.getfield 65, 3) := by decide +kernel
theorem d_Mo_plain_66 : decode prog_13_method_19_code 66 = .ok (.iload_n 2, 1) := by decide +kernel
theorem d_Mo_plain_67 : decode prog_13_method_19_code 67 = .ok (.iconst 1, 1) := by decide +kernel
theorem d_Mo_plain_68 : decode prog_13_method_19_code 68 = .ok (.iadd, 1) := by decide +kernel
theorem d_Mo_plain_69 : decode prog_13_method_19_code 69 = .ok (.iconst 3, 1) := by decide +kernel
theorem d_Mo_plain_70 : decode prog_13_method_19_code 70 = .ok (.iastore, 1) := by decide +kernel
theorem d_Mo_plain_71 : decode prog_13_method_19_code 71 = .ok (.aload_n 0, 1) := by decide +kernel
theorem d_Mo_plain_72 : decode prog_13_method_19_code 72 = .ok (.getfield 65, 3) := by decide +kernel
theorem d_Mo_plain_75 : decode prog_13_method_19_code 75 = .ok (.iload_n 2, 1) := by decide +kernel
theorem d_Mo_plain_76 : decode prog_13_method_19_code 76 = .ok (.iconst 2, 1) := by decide +kernel
theorem d_Mo_plain_77 : decode prog_13_method_19_code 77 = .ok (.iadd, 1) := by decide +kernel
theorem d_Mo_plain_78 : decode prog_13_method_19_code 78 = .ok (.iconst 2, 1) := by decide +kernel
theorem d_Mo_plain_79 : decode prog_13_method_19_code 79 = .ok (.iastore, 1) := by decide +kernel
theorem d_Mo_plain_80 : decode prog_13_method_19_code 80 = .ok (.aload_n 0, 1) := by decide +kernel
theorem d_Mo_plain_81 : decode prog_13_method_19_code 81 = .ok (.getfield 65, 3) := by decide +kernel
theorem d_Mo_plain_84 : decode prog_13_method_19_code 84 = .ok (.iload_n 2, 1) := by decide +kernel
theorem d_Mo_plain_85 : decode prog_13_method_19_code 85 = .ok (.iconst 3, 1) := by decide +kernel
theorem d_Mo_plain_86 : decode prog_13_method_19_code 86 = .ok (.iadd, 1) := by decide +kernel
theorem d_Mo_plain_87 : decode prog_13_method_19_code 87 = .ok (.iconst 5, 1) := by decide +kernel
theorem d_Mo_plain_88 : decode prog_13_method_19_code 88 = .ok (.iastore, 1) := by decide +kernel
theorem d_Mo_plain_89 : decode prog_13_method_19_code 89 = .ok (.aload_n 0, 1) := by decide +kernel
theorem d_Mo_plain_90 : decode prog_13_method_19_code 90 = .ok (.getfield 65, 3) := by decide +kernel
theorem d_Mo_plain_93 : decode prog_13_method_19_code 93 = .ok (.iload_n 2, 1) := by decide +kernel
theorem d_Mo_plain_94 : decode prog_13_method_19_code 94 = .ok (.iconst 4, 1) := by decide +kernel
theorem d_Mo_plain_95 : decode prog_13_method_19_code 95 = .ok (.iadd, 1) := by decide +kernel
theorem d_Mo_plain_96 : decode prog_13_method_19_code 96 = .ok (.bipush 60, 2) := by decide +kernel
theorem d_Mo_plain_98 : decode prog_13_method_19_code 98 = .ok (.iastore, 1) := by decide +kernel
theorem d_Mo_plain_99 : decode prog_13_method_19_code 99 = .ok (.aload_n 0, 1) := by decide +kernel
theorem d_Mo_plain_100 : decode prog_13_method_19_code 100 = .ok (.getfield 65, 3) := by decide +kernel
theorem d_Mo_plain_103 : decode prog_13_method_19_code 103 = .ok (.iload_n 2, 1) := by decide +kernel
theorem d_Mo_plain_104 : decode prog_13_method_19_code 104 = .ok (.iconst 5, 1) := by decide +kernel
theorem d_Mo_plain_105 : decode prog_13_method_19_code 105 = .ok (.iadd, 1) := by decide +kernel
theorem d_Mo_plain_106 : decode prog_13_method_19_code 106 = .ok (.iconst 4, 1) := by decide +kernel
theorem d_Mo_plain_107 : decode prog_13_method_19_code 107 = .ok (.iastore, 1) := by decide +kernel
theorem d_Mo_plain_108 : decode prog_13_method_19_code 108 = .ok (.aload_n 0, 1) := by decide +kernel
theorem d_Mo_plain_109 : decode prog_13_method_19_code 109 = .ok (.getfield 65, 3) := by decide +kernel
theorem d_Mo_plain_112 : decode prog_13_method_19_code 112 = .ok (.iload_n 2, 1) := by decide +kernel
theorem d_Mo_plain_113 : decode prog_13_method_19_code 113 = .ok (.bipush 6, 2) := by decide +kernel
theorem d_Mo_plain_115 : decode prog_13_method_19_code 115 = .ok (.iadd, 1) := by decide +kernel
theorem d_Mo_plain_116 : decode prog_13_method_19_code 116 = .ok (.bipush 12, 2) := by decide +kernel
theorem d_Mo_plain_118 : decode prog_13_method_19_code 118 = .ok (.iastore, 1) := by decide +kernel
theorem d_Mo_plain_119 : decode prog_13_method_19_code 119 = .ok (.aload_n 0, 1) := by decide +kernel
theorem d_Mo_plain_120 : decode prog_13_method_19_code 120 = .ok (.getfield 65, 3) := by decide +kernel
theorem d_Mo_plain_123 : decode prog_13_method_19_code 123 = .ok (.iload_n 2, 1) := by decide +kernel
theorem d_Mo_plain_124 : decode prog_13_method_19_code 124 = .ok (.bipush 7, 2) := by decide +kernel
theorem d_Mo_plain_126 : decode prog_13_method_19_code 126 = .ok (.iadd, 1) := by decide +kernel
theorem d_Mo_plain_127 : decode prog_13_method_19_code 127 = .ok (.iconst 0, 1) := by decide +kernel
theorem d_Mo_plain_128 : decode prog_13_method_19_code 128 = .ok (.iastore, 1) := by decide +kernel
theorem d_Mo_plain_129 : decode prog_13_method_19_code 129 = .ok (.aload_n 0, 1) := by decide +kernel
theorem d_Mo_plain_130 : decode prog_13_method_19_code 130 = .ok (.getfield 65, 3) := by decide +kernel
theorem d_Mo_plain_133 : decode prog_13_method_19_code 133 = .ok (.iload_n 2, 1) := by decide +kernel
theorem d_Mo_plain_134 : decode prog_13_method_19_code 134 = .ok (.bipush 8, 2) := by decide +kernel
theorem d_Mo_plain_136 : decode prog_13_method_19_code 136 = .ok (.iadd, 1) := by decide +kernel
theorem d_Mo_plain_137 : decode prog_13_method_19_code 137 = .ok (.iconst 0, 1) := by decide +kernel
theorem d_Mo_plain_138 : decode prog_13_method_19_code 138 = .ok (.iastore, 1) := by decide +kernel
theorem d_Mo_plain_139 : decode prog_13_method_19_code 139 = .ok (.return_, 1) := by decide +kernel
def wp_Mo_plain_b26   (Q : sx_M → sx_L → Prop) : Nat → Int32 → Int32 → sx_M → sx_L → Prop
  | 0, _, _, _, _ => False
  | f + 1, v1, v2, σ, τ => if (49 * v1) + 49 ≤ v2 then (vp_in (9 * v1) 18 ∧ (∀ σ3 : sx_M, σ3 = sx_u σ 66 0 0 (9 * v1).toNatClampNeg 4 → (vp_in ((9 * v1) + 1) 18 ∧ (∀ σ5 : sx_M, σ5 = sx_u σ3 66 0 0 ((9 * v1) + 1).toNatClampNeg 3 → (vp_in ((9 * v1) + 2) 18 ∧ (∀ σ7 : sx_M, σ7 = sx_u σ5 66 0 0 ((9 * v1) + 2).toNatClampNeg 2 → (vp_in ((9 * v1) + 3) 18 ∧ (∀ σ9 : sx_M, σ9 = sx_u σ7 66 0 0 ((9 * v1) + 3).toNatClampNeg 5 → (vp_in ((9 * v1) + 4) 18 ∧ (∀ σ11 : sx_M, σ11 = sx_u σ9 66 0 0 ((9 * v1) + 4).toNatClampNeg 60 → (vp_in ((9 * v1) + 5) 18 ∧ (∀ σ13 : sx_M, σ13 = sx_u σ11 66 0 0 ((9 * v1) + 5).toNatClampNeg 4 → (vp_in ((9 * v1) + 6) 18 ∧ (∀ σ15 : sx_M, σ15 = sx_u σ13 66 0 0 ((9 * v1) + 6).toNatClampNeg 12 → (vp_in ((9 * v1) + 7) 18 ∧ (∀ σ17 : sx_M, σ17 = sx_u σ15 66 0 0 ((9 * v1) + 7).toNatClampNeg 0 → (vp_in ((9 * v1) + 8) 18 ∧ (∀ σ19 : sx_M, σ19 = sx_u σ17 66 0 0 ((9 * v1) + 8).toNatClampNeg 0 → (Q σ19 τ))))))))))))))))))) else (vp_in v2 98 ∧ (∀ σ21 : sx_M, σ21 = sx_u σ 64 0 0 v2.toNatClampNeg (-1) → (wp_Mo_plain_b26 Q f v1 (v2 + 1) σ21 τ)))
def wp_Mo_plain (x1 : Int32) (σ : sx_M) (τ : sx_L) (Q : sx_M → sx_L → Prop) : Prop := vp_in x1 2 ∧ (∀ σ23 : sx_M, σ23 = sx_u σ 58 0 0 x1.toNatClampNeg 0 → (vp_in x1 2 ∧ (∀ σ25 : sx_M, σ25 = sx_u σ23 59 0 0 x1.toNatClampNeg 0 → (vp_in x1 2 ∧ (∀ σ27 : sx_M, σ27 = sx_u σ25 65 0 0 x1.toNatClampNeg (vp_nar .boolean 0) → (∃ f26, wp_Mo_plain_b26 Q f26 x1 (49 * x1) σ27 τ))))))
abbrev rm_Mo_plain : Room := { frames := 0, cells := 0, slots := 0, locals := 0 }
set_option maxRecDepth 100000 in
set_option maxHeartbeats 4000000 in
theorem g_Mo_plain_b26 {l : Launch} {K : sx_K} {X : sx_T}   {Q : sx_M → sx_L → Prop} (hX : sx_C X K prog_13_method_19_code 3 "SensorTreeModel" none rm_Mo_plain l) (hK : kx_F K) (hE : sx_E X K (sx_Qv K Q))  : ∀ (f : Nat) (v1 : Int32) (v2 : Int32) (σ : sx_M) (τ : sx_L) , wp_Mo_plain_b26 Q f v1 v2 σ τ → sx_G X K 3 26 [(0, .ref (K.2.2.1 50 0 0)), (1, .int v1), (2, .int v2)] [] (sx_H K σ τ) := by
  intro f
  induction f with
  | zero => intro v1 v2 σ τ h; exact (show False from h).elim
  | succ f ih =>
    intro v1 v2 σ τ h
    rw [wp_Mo_plain_b26] at h
    refine sx_iload_n (pc2 := 27) hX 2 d_Mo_plain_26 rfl rfl rfl ?_
    refine sx_bipush (v := 49) (pc2 := 29) hX d_Mo_plain_27 (by decide) rfl ?_
    refine sx_iload_n (pc2 := 30) hX 1 d_Mo_plain_29 rfl rfl rfl ?_
    refine sx_imul (pc2 := 31) hX d_Mo_plain_30 rfl ?_
    refine sx_bipush (v := 49) (pc2 := 33) hX d_Mo_plain_31 (by decide) rfl ?_
    refine sx_iadd (pc2 := 34) hX d_Mo_plain_33 rfl ?_
    refine sx_icmp_ge (tgt := 50) (pc2 := 37) hX d_Mo_plain_34 (by decide) rfl (fun hc1 => ?_) (fun hc1 => ?_)
    · replace h := sx_t h hc1
      refine sx_bipush (v := 9) (pc2 := 52) hX d_Mo_plain_50 (by decide) rfl ?_
      refine sx_iload_n (pc2 := 53) hX 1 d_Mo_plain_52 rfl rfl rfl ?_
      refine sx_imul (pc2 := 54) hX d_Mo_plain_53 rfl ?_
      refine sx_istore_n (pc2 := 55) hX _ [(0, .ref (K.2.2.1 50 0 0)), (1, .int v1), (2, .int (9 * v1))] [1, 2, 0] d_Mo_plain_54 rfl (by decide) rfl rfl rfl ?_
      refine sx_aload_n (pc2 := 56) hX 0 d_Mo_plain_55 rfl rfl rfl ?_
      refine fg_Mo_65 (pc2 := 59) hX (kr_50 hK) d_Mo_plain_56 rfl ?_
      refine sx_iload_n (pc2 := 60) hX 2 d_Mo_plain_59 rfl rfl rfl ?_
      refine sx_iconst (v := 4) (pc2 := 61) hX d_Mo_plain_60 (by decide) rfl ?_
      obtain ⟨hc2, h⟩ := h
      refine sx_iast (pc2 := 62) hX (kr_66 hK) (fun _ => rfl) hc2 d_Mo_plain_61 rfl ?_
      refine sx_nm (fun σ3 e3 => ?_)
      replace h := h σ3 e3
      refine sx_aload_n (pc2 := 63) hX 0 d_Mo_plain_62 rfl rfl rfl ?_
      refine fg_Mo_65 (pc2 := 66) hX (kr_50 hK) d_Mo_plain_63 rfl ?_
      refine sx_iload_n (pc2 := 67) hX 2 d_Mo_plain_66 rfl rfl rfl ?_
      refine sx_iconst (v := 1) (pc2 := 68) hX d_Mo_plain_67 (by decide) rfl ?_
      refine sx_iadd (pc2 := 69) hX d_Mo_plain_68 rfl ?_
      refine sx_iconst (v := 3) (pc2 := 70) hX d_Mo_plain_69 (by decide) rfl ?_
      obtain ⟨hc4, h⟩ := h
      refine sx_iast (pc2 := 71) hX (kr_66 hK) (fun _ => rfl) hc4 d_Mo_plain_70 rfl ?_
      refine sx_nm (fun σ5 e5 => ?_)
      replace h := h σ5 e5
      refine sx_aload_n (pc2 := 72) hX 0 d_Mo_plain_71 rfl rfl rfl ?_
      refine fg_Mo_65 (pc2 := 75) hX (kr_50 hK) d_Mo_plain_72 rfl ?_
      refine sx_iload_n (pc2 := 76) hX 2 d_Mo_plain_75 rfl rfl rfl ?_
      refine sx_iconst (v := 2) (pc2 := 77) hX d_Mo_plain_76 (by decide) rfl ?_
      refine sx_iadd (pc2 := 78) hX d_Mo_plain_77 rfl ?_
      refine sx_iconst (v := 2) (pc2 := 79) hX d_Mo_plain_78 (by decide) rfl ?_
      obtain ⟨hc6, h⟩ := h
      refine sx_iast (pc2 := 80) hX (kr_66 hK) (fun _ => rfl) hc6 d_Mo_plain_79 rfl ?_
      refine sx_nm (fun σ7 e7 => ?_)
      replace h := h σ7 e7
      refine sx_aload_n (pc2 := 81) hX 0 d_Mo_plain_80 rfl rfl rfl ?_
      refine fg_Mo_65 (pc2 := 84) hX (kr_50 hK) d_Mo_plain_81 rfl ?_
      refine sx_iload_n (pc2 := 85) hX 2 d_Mo_plain_84 rfl rfl rfl ?_
      refine sx_iconst (v := 3) (pc2 := 86) hX d_Mo_plain_85 (by decide) rfl ?_
      refine sx_iadd (pc2 := 87) hX d_Mo_plain_86 rfl ?_
      refine sx_iconst (v := 5) (pc2 := 88) hX d_Mo_plain_87 (by decide) rfl ?_
      obtain ⟨hc8, h⟩ := h
      refine sx_iast (pc2 := 89) hX (kr_66 hK) (fun _ => rfl) hc8 d_Mo_plain_88 rfl ?_
      refine sx_nm (fun σ9 e9 => ?_)
      replace h := h σ9 e9
      refine sx_aload_n (pc2 := 90) hX 0 d_Mo_plain_89 rfl rfl rfl ?_
      refine fg_Mo_65 (pc2 := 93) hX (kr_50 hK) d_Mo_plain_90 rfl ?_
      refine sx_iload_n (pc2 := 94) hX 2 d_Mo_plain_93 rfl rfl rfl ?_
      refine sx_iconst (v := 4) (pc2 := 95) hX d_Mo_plain_94 (by decide) rfl ?_
      refine sx_iadd (pc2 := 96) hX d_Mo_plain_95 rfl ?_
      refine sx_bipush (v := 60) (pc2 := 98) hX d_Mo_plain_96 (by decide) rfl ?_
      obtain ⟨hc10, h⟩ := h
      refine sx_iast (pc2 := 99) hX (kr_66 hK) (fun _ => rfl) hc10 d_Mo_plain_98 rfl ?_
      refine sx_nm (fun σ11 e11 => ?_)
      replace h := h σ11 e11
      refine sx_aload_n (pc2 := 100) hX 0 d_Mo_plain_99 rfl rfl rfl ?_
      refine fg_Mo_65 (pc2 := 103) hX (kr_50 hK) d_Mo_plain_100 rfl ?_
      refine sx_iload_n (pc2 := 104) hX 2 d_Mo_plain_103 rfl rfl rfl ?_
      refine sx_iconst (v := 5) (pc2 := 105) hX d_Mo_plain_104 (by decide) rfl ?_
      refine sx_iadd (pc2 := 106) hX d_Mo_plain_105 rfl ?_
      refine sx_iconst (v := 4) (pc2 := 107) hX d_Mo_plain_106 (by decide) rfl ?_
      obtain ⟨hc12, h⟩ := h
      refine sx_iast (pc2 := 108) hX (kr_66 hK) (fun _ => rfl) hc12 d_Mo_plain_107 rfl ?_
      refine sx_nm (fun σ13 e13 => ?_)
      replace h := h σ13 e13
      refine sx_aload_n (pc2 := 109) hX 0 d_Mo_plain_108 rfl rfl rfl ?_
      refine fg_Mo_65 (pc2 := 112) hX (kr_50 hK) d_Mo_plain_109 rfl ?_
      refine sx_iload_n (pc2 := 113) hX 2 d_Mo_plain_112 rfl rfl rfl ?_
      refine sx_bipush (v := 6) (pc2 := 115) hX d_Mo_plain_113 (by decide) rfl ?_
      refine sx_iadd (pc2 := 116) hX d_Mo_plain_115 rfl ?_
      refine sx_bipush (v := 12) (pc2 := 118) hX d_Mo_plain_116 (by decide) rfl ?_
      obtain ⟨hc14, h⟩ := h
      refine sx_iast (pc2 := 119) hX (kr_66 hK) (fun _ => rfl) hc14 d_Mo_plain_118 rfl ?_
      refine sx_nm (fun σ15 e15 => ?_)
      replace h := h σ15 e15
      refine sx_aload_n (pc2 := 120) hX 0 d_Mo_plain_119 rfl rfl rfl ?_
      refine fg_Mo_65 (pc2 := 123) hX (kr_50 hK) d_Mo_plain_120 rfl ?_
      refine sx_iload_n (pc2 := 124) hX 2 d_Mo_plain_123 rfl rfl rfl ?_
      refine sx_bipush (v := 7) (pc2 := 126) hX d_Mo_plain_124 (by decide) rfl ?_
      refine sx_iadd (pc2 := 127) hX d_Mo_plain_126 rfl ?_
      refine sx_iconst (v := 0) (pc2 := 128) hX d_Mo_plain_127 (by decide) rfl ?_
      obtain ⟨hc16, h⟩ := h
      refine sx_iast (pc2 := 129) hX (kr_66 hK) (fun _ => rfl) hc16 d_Mo_plain_128 rfl ?_
      refine sx_nm (fun σ17 e17 => ?_)
      replace h := h σ17 e17
      refine sx_aload_n (pc2 := 130) hX 0 d_Mo_plain_129 rfl rfl rfl ?_
      refine fg_Mo_65 (pc2 := 133) hX (kr_50 hK) d_Mo_plain_130 rfl ?_
      refine sx_iload_n (pc2 := 134) hX 2 d_Mo_plain_133 rfl rfl rfl ?_
      refine sx_bipush (v := 8) (pc2 := 136) hX d_Mo_plain_134 (by decide) rfl ?_
      refine sx_iadd (pc2 := 137) hX d_Mo_plain_136 rfl ?_
      refine sx_iconst (v := 0) (pc2 := 138) hX d_Mo_plain_137 (by decide) rfl ?_
      obtain ⟨hc18, h⟩ := h
      refine sx_iast (pc2 := 139) hX (kr_66 hK) (fun _ => rfl) hc18 d_Mo_plain_138 rfl ?_
      refine sx_nm (fun σ19 e19 => ?_)
      replace h := h σ19 e19
      exact sx_vret hX hE h d_Mo_plain_139
    · replace h := sx_f h hc1
      refine sx_aload_n (pc2 := 38) hX 0 d_Mo_plain_37 rfl rfl rfl ?_
      refine fg_Mo_58 (pc2 := 41) hX (kr_50 hK) d_Mo_plain_38 rfl ?_
      refine sx_iload_n (pc2 := 42) hX 2 d_Mo_plain_41 rfl rfl rfl ?_
      refine sx_iconst (v := (-1)) (pc2 := 43) hX d_Mo_plain_42 (by decide) rfl ?_
      obtain ⟨hc20, h⟩ := h
      refine sx_iast (pc2 := 44) hX (kr_64 hK) (fun _ => rfl) hc20 d_Mo_plain_43 rfl ?_
      refine sx_nm (fun σ21 e21 => ?_)
      replace h := h σ21 e21
      refine sx_iinc (pc2 := 47) hX 2 _ [(0, .ref (K.2.2.1 50 0 0)), (1, .int v1), (2, .int (v2 + 1))] [1, 2, 0] d_Mo_plain_44 rfl (v2 + 1) rfl (by decide) rfl rfl rfl ?_
      refine sx_goto (tgt := 26) hX d_Mo_plain_47 (by decide) ?_
      exact ih v1 (v2 + 1) _ _ h
set_option maxRecDepth 100000 in
set_option maxHeartbeats 4000000 in
theorem c_Mo_plain {l : Launch} {K : sx_K} (hK : kx_F K) (x1 : Int32) (σ : sx_M) (τ : sx_L) (Q : sx_M → sx_L → Prop)  (h : wp_Mo_plain x1 σ τ Q) : Met l y_Mo_plain (sx_wd y_Mo_plain prog_13_method_19_code 3 none) rm_Mo_plain (sx_Pc K [.ref (K.2.2.1 50 0 0), .int x1] σ τ) (sx_Qv K Q) 0 0 (sx_A K) := by
  refine sx_met (by decide) (Nat.le_of_ble_eq_true rfl) (fun X hX hE => ?_)
  replace hX : sx_C X K prog_13_method_19_code 3 "SensorTreeModel" none rm_Mo_plain l := hX
  show sx_G X K 3 0 [(0, .ref (K.2.2.1 50 0 0)), (1, .int x1)] [] (sx_H K σ τ)
  unfold wp_Mo_plain at h
  refine sx_aload_n (pc2 := 1) hX 0 d_Mo_plain_0 rfl rfl rfl ?_
  refine fg_Mo_40 (pc2 := 4) hX (kr_50 hK) d_Mo_plain_1 rfl ?_
  refine sx_iload_n (pc2 := 5) hX 1 d_Mo_plain_4 rfl rfl rfl ?_
  refine sx_iconst (v := 0) (pc2 := 6) hX d_Mo_plain_5 (by decide) rfl ?_
  obtain ⟨hc22, h⟩ := h
  refine sx_iast (pc2 := 7) hX (kr_58 hK) (fun _ => rfl) hc22 d_Mo_plain_6 rfl ?_
  refine sx_nm (fun σ23 e23 => ?_)
  replace h := h σ23 e23
  refine sx_aload_n (pc2 := 8) hX 0 d_Mo_plain_7 rfl rfl rfl ?_
  refine fg_Mo_43 (pc2 := 11) hX (kr_50 hK) d_Mo_plain_8 rfl ?_
  refine sx_iload_n (pc2 := 12) hX 1 d_Mo_plain_11 rfl rfl rfl ?_
  refine sx_iconst (v := 0) (pc2 := 13) hX d_Mo_plain_12 (by decide) rfl ?_
  obtain ⟨hc24, h⟩ := h
  refine sx_iast (pc2 := 14) hX (kr_59 hK) (fun _ => rfl) hc24 d_Mo_plain_13 rfl ?_
  refine sx_nm (fun σ25 e25 => ?_)
  replace h := h σ25 e25
  refine sx_aload_n (pc2 := 15) hX 0 d_Mo_plain_14 rfl rfl rfl ?_
  refine fg_Mo_61 (pc2 := 18) hX (kr_50 hK) d_Mo_plain_15 rfl ?_
  refine sx_iload_n (pc2 := 19) hX 1 d_Mo_plain_18 rfl rfl rfl ?_
  refine sx_iconst (v := 0) (pc2 := 20) hX d_Mo_plain_19 (by decide) rfl ?_
  obtain ⟨hc26, h⟩ := h
  refine sx_zast (pc2 := 21) hX (kr_65 hK) (fun _ => rfl) hc26 d_Mo_plain_20 rfl ?_
  refine sx_nm (fun σ27 e27 => ?_)
  replace h := h σ27 e27
  refine sx_bipush (v := 49) (pc2 := 23) hX d_Mo_plain_21 (by decide) rfl ?_
  refine sx_iload_n (pc2 := 24) hX 1 d_Mo_plain_23 rfl rfl rfl ?_
  refine sx_imul (pc2 := 25) hX d_Mo_plain_24 rfl ?_
  refine sx_istore_n (pc2 := 26) hX _ [(0, .ref (K.2.2.1 50 0 0)), (1, .int x1), (2, .int (49 * x1))] [1, 2, 0] d_Mo_plain_25 rfl (by decide) rfl rfl rfl ?_
  obtain ⟨f26, h⟩ := h
  exact g_Mo_plain_b26 hX hK hE   f26 x1 (49 * x1) _ _ h
theorem cl_Mo_96 {X : sx_T} {K : sx_K} {cc : ByteArray} {nL : Nat} {ret : Option FieldType} {rm : Room} {l : Launch} {pc pc2 : Nat} {lv : List (Nat × Value)} {st : List Value} {σ : sx_M} {τ : sx_L} {x1 : Int32} {Q : sx_M → sx_L → Prop} (hX : sx_C X K cc nL "SensorTreeModel" ret rm l) (hK : kx_F K) (h : wp_Mo_plain x1 σ τ Q)  (hR : rm_Mo_plain.frames + 1 ≤ rm.frames ∧ 8 + (3 + 11) + rm_Mo_plain.locals ≤ rm.locals) (hst : (st.map fun v => v.category).sum ≤ 8) (hd : decode cc pc = .ok (.invokevirtual 96, 3)) (hpc : pc + 3 = pc2) (kk : ∀ (σ2 : sx_M) (τ2 : sx_L), Q σ2 τ2 → sx_G X K nL pc2 lv (st) (sx_H K σ2 τ2)) : sx_G X K nL pc lv (.int x1 :: .ref (K.2.2.1 50 0 0) :: st) (sx_H K σ τ) :=
  sx_callVv (Q := Q) (As := [.int x1]) hX (c_Mo_plain hK x1 σ τ Q  h) (kr_50 hK) rfl rfl lk_460 ls_37 hy_Mo_plain lk_458 lk_364 lk_459 ⟨rfl, rfl⟩ hR hst rfl hd hpc kk
def y_Mo_leastOf : MethodName := ⟨"SensorTreeModel", "leastOf", "(I)I"⟩
theorem hy_Mo_leastOf : y_Mo_leastOf.cls ≠ "java/lang/invoke/MethodHandle" ∧ y_Mo_leastOf.cls ≠ "java/lang/invoke/VarHandle" ∧ (parseMethodDescriptor y_Mo_leastOf.desc).map (fun d => d.parameters.length) = some 1 := by decide +kernel
theorem d_Mo_leastOf_0 : decode prog_13_method_20_code 0 = .ok (.iload_n 0, 1) := by decide +kernel
theorem d_Mo_leastOf_1 : decode prog_13_method_20_code 1 = .ok (.ifCond .eq 9, 3) := by decide +kernel
theorem d_Mo_leastOf_4 : decode prog_13_method_20_code 4 = .ok (.iload_n 0, 1) := by decide +kernel
theorem d_Mo_leastOf_5 : decode prog_13_method_20_code 5 = .ok (.bipush 6, 2) := by decide +kernel
theorem d_Mo_leastOf_7 : decode prog_13_method_20_code 7 = .ok (.if_icmp .ne 7, 3) := by decide +kernel
theorem d_Mo_leastOf_10 : decode prog_13_method_20_code 10 = .ok (.iconst 2, 1) := by decide +kernel
theorem d_Mo_leastOf_11 : decode prog_13_method_20_code 11 = .ok (.goto 18, 3) := by decide +kernel
theorem d_Mo_leastOf_14 : decode prog_13_method_20_code 14 = .ok (.iload_n 0, 1) := by decide +kernel
theorem d_Mo_leastOf_15 : decode prog_13_method_20_code 15 = .ok (.iconst 2, 1) := by decide +kernel
theorem d_Mo_leastOf_16 : decode prog_13_method_20_code 16 = .ok (.if_icmp .eq 8, 3) := by decide +kernel
theorem d_Mo_leastOf_19 : decode prog_13_method_20_code 19 = .ok (.iload_n 0, 1) := by decide +kernel
theorem d_Mo_leastOf_20 : decode prog_13_method_20_code 20 = .ok (.iconst 5, 1) := by decide +kernel
theorem d_Mo_leastOf_21 : decode prog_13_method_20_code 21 = .ok (.if_icmp .ne 7, 3) := by decide +kernel
theorem d_Mo_leastOf_24 : decode prog_13_method_20_code 24 = .ok (.iconst 1, 1) := by decide +kernel
theorem d_Mo_leastOf_25 : decode prog_13_method_20_code 25 = .ok (.goto 4, 3) := by decide +kernel
theorem d_Mo_leastOf_28 : decode prog_13_method_20_code 28 = .ok (.iconst 0, 1) := by decide +kernel
theorem d_Mo_leastOf_29 : decode prog_13_method_20_code 29 = .ok (.ireturn, 1) := by decide +kernel
def wp_Mo_leastOf_b29   (Q : Int32 → sx_M → sx_L → Prop) (w0 : Int32) (σ : sx_M) (τ : sx_L) : Prop := Q w0 σ τ
def wp_Mo_leastOf_b24   (Q : Int32 → sx_M → sx_L → Prop)  (σ : sx_M) (τ : sx_L) : Prop := wp_Mo_leastOf_b29 Q 1 σ τ
def wp_Mo_leastOf_b10   (Q : Int32 → sx_M → sx_L → Prop)  (σ : sx_M) (τ : sx_L) : Prop := wp_Mo_leastOf_b29 Q 2 σ τ
def wp_Mo_leastOf (x0 : Int32) (σ : sx_M) (τ : sx_L) (Q : Int32 → sx_M → sx_L → Prop) : Prop := if x0 = 0 then (wp_Mo_leastOf_b10 Q σ τ) else (if x0 = 6 then (wp_Mo_leastOf_b10 Q σ τ) else (if x0 = 2 then (wp_Mo_leastOf_b24 Q σ τ) else (if x0 = 5 then (wp_Mo_leastOf_b24 Q σ τ) else (wp_Mo_leastOf_b29 Q 0 σ τ))))
abbrev rm_Mo_leastOf : Room := { frames := 0, cells := 0, slots := 0, locals := 0 }
set_option maxRecDepth 100000 in
set_option maxHeartbeats 4000000 in
theorem g_Mo_leastOf_b29 {l : Launch} {K : sx_K} {X : sx_T}   {Q : Int32 → sx_M → sx_L → Prop} (hX : sx_C X K prog_13_method_20_code 1 "SensorTreeModel" (some .int) rm_Mo_leastOf l) (hK : kx_F K) (hE : sx_E X K (sx_Qi K Q))  (w0 : Int32) (σ : sx_M) (τ : sx_L)  (h : wp_Mo_leastOf_b29 Q  w0 σ τ) : sx_G X K 1 29 [] [.int w0] (sx_H K σ τ) := by
  unfold wp_Mo_leastOf_b29 at h
  exact sx_iret hX hE h d_Mo_leastOf_29
set_option maxRecDepth 100000 in
set_option maxHeartbeats 4000000 in
theorem g_Mo_leastOf_b24 {l : Launch} {K : sx_K} {X : sx_T}   {Q : Int32 → sx_M → sx_L → Prop} (hX : sx_C X K prog_13_method_20_code 1 "SensorTreeModel" (some .int) rm_Mo_leastOf l) (hK : kx_F K) (hE : sx_E X K (sx_Qi K Q))   (σ : sx_M) (τ : sx_L)  (h : wp_Mo_leastOf_b24 Q  σ τ) : sx_G X K 1 24 [] [] (sx_H K σ τ) := by
  unfold wp_Mo_leastOf_b24 at h
  refine sx_iconst (v := 1) (pc2 := 25) hX d_Mo_leastOf_24 (by decide) rfl ?_
  refine sx_goto (tgt := 29) hX d_Mo_leastOf_25 (by decide) ?_
  exact g_Mo_leastOf_b29 hX hK hE   1 _ _ h
set_option maxRecDepth 100000 in
set_option maxHeartbeats 4000000 in
theorem g_Mo_leastOf_b10 {l : Launch} {K : sx_K} {X : sx_T}   {Q : Int32 → sx_M → sx_L → Prop} (hX : sx_C X K prog_13_method_20_code 1 "SensorTreeModel" (some .int) rm_Mo_leastOf l) (hK : kx_F K) (hE : sx_E X K (sx_Qi K Q))   (σ : sx_M) (τ : sx_L)  (h : wp_Mo_leastOf_b10 Q  σ τ) : sx_G X K 1 10 [] [] (sx_H K σ τ) := by
  unfold wp_Mo_leastOf_b10 at h
  refine sx_iconst (v := 2) (pc2 := 11) hX d_Mo_leastOf_10 (by decide) rfl ?_
  refine sx_goto (tgt := 29) hX d_Mo_leastOf_11 (by decide) ?_
  exact g_Mo_leastOf_b29 hX hK hE   2 _ _ h
set_option maxRecDepth 100000 in
set_option maxHeartbeats 4000000 in
theorem c_Mo_leastOf {l : Launch} {K : sx_K} (hK : kx_F K) (x0 : Int32) (σ : sx_M) (τ : sx_L) (Q : Int32 → sx_M → sx_L → Prop)  (h : wp_Mo_leastOf x0 σ τ Q) : Met l y_Mo_leastOf (sx_wd y_Mo_leastOf prog_13_method_20_code 1 (some .int)) rm_Mo_leastOf (sx_Pc K [.int x0] σ τ) (sx_Qi K Q) 0 0 (sx_A K) := by
  refine sx_met (by decide) (Nat.le_of_ble_eq_true rfl) (fun X hX hE => ?_)
  replace hX : sx_C X K prog_13_method_20_code 1 "SensorTreeModel" (some .int) rm_Mo_leastOf l := hX
  show sx_G X K 1 0 [(0, .int x0)] [] (sx_H K σ τ)
  unfold wp_Mo_leastOf at h
  refine sx_iload_n (pc2 := 1) hX 0 d_Mo_leastOf_0 rfl rfl rfl ?_
  refine sx_if_eq (tgt := 10) (pc2 := 4) hX d_Mo_leastOf_1 (by decide) rfl (fun hc1 => ?_) (fun hc1 => ?_)
  · replace h := sx_t h hc1
    refine sx_sub [] [] rfl ?_
    exact g_Mo_leastOf_b10 hX hK hE   _ _ h
  · replace h := sx_f h hc1
    refine sx_iload_n (pc2 := 5) hX 0 d_Mo_leastOf_4 rfl rfl rfl ?_
    refine sx_bipush (v := 6) (pc2 := 7) hX d_Mo_leastOf_5 (by decide) rfl ?_
    refine sx_icmp_ne (tgt := 14) (pc2 := 10) hX d_Mo_leastOf_7 (by decide) rfl (fun hc2 => ?_) (fun hc2 => ?_)
    · replace h := sx_f h hc2
      refine sx_iload_n (pc2 := 15) hX 0 d_Mo_leastOf_14 rfl rfl rfl ?_
      refine sx_iconst (v := 2) (pc2 := 16) hX d_Mo_leastOf_15 (by decide) rfl ?_
      refine sx_icmp_eq (tgt := 24) (pc2 := 19) hX d_Mo_leastOf_16 (by decide) rfl (fun hc3 => ?_) (fun hc3 => ?_)
      · replace h := sx_t h hc3
        refine sx_sub [] [] rfl ?_
        exact g_Mo_leastOf_b24 hX hK hE   _ _ h
      · replace h := sx_f h hc3
        refine sx_iload_n (pc2 := 20) hX 0 d_Mo_leastOf_19 rfl rfl rfl ?_
        refine sx_iconst (v := 5) (pc2 := 21) hX d_Mo_leastOf_20 (by decide) rfl ?_
        refine sx_icmp_ne (tgt := 28) (pc2 := 24) hX d_Mo_leastOf_21 (by decide) rfl (fun hc4 => ?_) (fun hc4 => ?_)
        · replace h := sx_f h hc4
          refine sx_iconst (v := 0) (pc2 := 29) hX d_Mo_leastOf_28 (by decide) rfl ?_
          refine sx_sub [] [] rfl ?_
          exact g_Mo_leastOf_b29 hX hK hE   0 _ _ h
        · replace h := sx_t h hc4
          refine sx_sub [] [] rfl ?_
          exact g_Mo_leastOf_b24 hX hK hE   _ _ h
    · replace h := sx_t h hc2
      refine sx_sub [] [] rfl ?_
      exact g_Mo_leastOf_b10 hX hK hE   _ _ h
theorem cl_Mo_199 {X : sx_T} {K : sx_K} {cc : ByteArray} {nL : Nat} {ret : Option FieldType} {rm : Room} {l : Launch} {pc pc2 : Nat} {lv : List (Nat × Value)} {st : List Value} {σ : sx_M} {τ : sx_L} {x0 : Int32} {Q : Int32 → sx_M → sx_L → Prop} (hX : sx_C X K cc nL "SensorTreeModel" ret rm l) (hK : kx_F K) (h : wp_Mo_leastOf x0 σ τ Q)  (hR : rm_Mo_leastOf.frames + 1 ≤ rm.frames ∧ 8 + (1 + 11) + rm_Mo_leastOf.locals ≤ rm.locals) (hst : (st.map fun v => v.category).sum ≤ 8) (hd : decode cc pc = .ok (.invokestatic 199, 3)) (hpc : pc + 3 = pc2) (kk : ∀ (r : Int32) (σ2 : sx_M) (τ2 : sx_L), Q r σ2 τ2 → sx_G X K nL pc2 lv (.int r :: st) (sx_H K σ2 τ2)) : sx_G X K nL pc lv (.int x0 :: st) (sx_H K σ τ) :=
  sx_callSi (Q := Q) (As := [.int x0]) hX (c_Mo_leastOf hK x0 σ τ Q  h) lk_412 hy_Mo_leastOf lk_410 lk_364 lk_411 ⟨rfl, rfl⟩ hR hst rfl hd hpc kk
def y_Mo_mostOf : MethodName := ⟨"SensorTreeModel", "mostOf", "(I)I"⟩
theorem hy_Mo_mostOf : y_Mo_mostOf.cls ≠ "java/lang/invoke/MethodHandle" ∧ y_Mo_mostOf.cls ≠ "java/lang/invoke/VarHandle" ∧ (parseMethodDescriptor y_Mo_mostOf.desc).map (fun d => d.parameters.length) = some 1 := by decide +kernel
theorem d_Mo_mostOf_0 : decode prog_13_method_21_code 0 = .ok (.iload_n 0, 1) := by decide +kernel
theorem d_Mo_mostOf_1 : decode prog_13_method_21_code 1 = .ok (.tableswitch 71 0 7 #[47, 50, 52, 55, 58, 62, 65, 68], 47) := by decide +kernel
theorem d_Mo_mostOf_48 : decode prog_13_method_21_code 48 = .ok (.bipush 8, 2) := by decide +kernel
theorem d_Mo_mostOf_50 : decode prog_13_method_21_code 50 = .ok (.ireturn, 1) := by decide +kernel
theorem d_Mo_mostOf_51 : decode prog_13_method_21_code 51 = .ok (.iconst 4, 1) := by decide +kernel
theorem d_Mo_mostOf_52 : decode prog_13_method_21_code 52 = .ok (.ireturn, 1) := by decide +kernel
theorem d_Mo_mostOf_53 : decode prog_13_method_21_code 53 = .ok (.bipush 9, 2) := by decide +kernel
theorem d_Mo_mostOf_55 : decode prog_13_method_21_code 55 = .ok (.ireturn, 1) := by decide +kernel
theorem d_Mo_mostOf_56 : decode prog_13_method_21_code 56 = .ok (.bipush 99, 2) := by decide +kernel
theorem d_Mo_mostOf_58 : decode prog_13_method_21_code 58 = .ok (.ireturn, 1) := by decide +kernel
theorem d_Mo_mostOf_59 : decode prog_13_method_21_code 59 = .ok (.sipush 999, 3) := by decide +kernel
theorem d_Mo_mostOf_62 : decode prog_13_method_21_code 62 = .ok (.ireturn, 1) := by decide +kernel
theorem d_Mo_mostOf_63 : decode prog_13_method_21_code 63 = .ok (.bipush 20, 2) := by decide +kernel
theorem d_Mo_mostOf_65 : decode prog_13_method_21_code 65 = .ok (.ireturn, 1) := by decide +kernel
theorem d_Mo_mostOf_66 : decode prog_13_method_21_code 66 = .ok (.bipush 60, 2) := by decide +kernel
theorem d_Mo_mostOf_68 : decode prog_13_method_21_code 68 = .ok (.ireturn, 1) := by decide +kernel
theorem d_Mo_mostOf_69 : decode prog_13_method_21_code 69 = .ok (.bipush 100, 2) := by decide +kernel
theorem d_Mo_mostOf_71 : decode prog_13_method_21_code 71 = .ok (.ireturn, 1) := by decide +kernel
theorem d_Mo_mostOf_72 : decode prog_13_method_21_code 72 = .ok (.sipush 9999, 3) := by decide +kernel
theorem d_Mo_mostOf_75 : decode prog_13_method_21_code 75 = .ok (.ireturn, 1) := by decide +kernel
def wp_Mo_mostOf (x0 : Int32) (σ : sx_M) (τ : sx_L) (Q : Int32 → sx_M → sx_L → Prop) : Prop := if x0 = 0 then (Q 8 σ τ) else (if x0 = 1 then (Q 4 σ τ) else (if x0 = 2 then (Q 9 σ τ) else (if x0 = 3 then (Q 99 σ τ) else (if x0 = 4 then (Q 999 σ τ) else (if x0 = 5 then (Q 20 σ τ) else (if x0 = 6 then (Q 60 σ τ) else (if x0 = 7 then (Q 100 σ τ) else (Q 9999 σ τ))))))))
abbrev rm_Mo_mostOf : Room := { frames := 0, cells := 0, slots := 0, locals := 0 }
set_option maxRecDepth 100000 in
set_option maxHeartbeats 4000000 in
theorem c_Mo_mostOf {l : Launch} {K : sx_K} (hK : kx_F K) (x0 : Int32) (σ : sx_M) (τ : sx_L) (Q : Int32 → sx_M → sx_L → Prop)  (h : wp_Mo_mostOf x0 σ τ Q) : Met l y_Mo_mostOf (sx_wd y_Mo_mostOf prog_13_method_21_code 1 (some .int)) rm_Mo_mostOf (sx_Pc K [.int x0] σ τ) (sx_Qi K Q) 0 0 (sx_A K) := by
  refine sx_met (by decide) (Nat.le_of_ble_eq_true rfl) (fun X hX hE => ?_)
  replace hX : sx_C X K prog_13_method_21_code 1 "SensorTreeModel" (some .int) rm_Mo_mostOf l := hX
  show sx_G X K 1 0 [(0, .int x0)] [] (sx_H K σ τ)
  unfold wp_Mo_mostOf at h
  refine sx_iload_n (pc2 := 1) hX 0 d_Mo_mostOf_0 rfl rfl rfl ?_
  by_cases hc1 : x0 = 0
  · replace h := sx_t h hc1
    refine sx_swi (tgt := 48) hX 0 hc1 d_Mo_mostOf_1 (by decide) (by decide) rfl (by decide) ?_
    refine sx_bipush (v := 8) (pc2 := 50) hX d_Mo_mostOf_48 (by decide) rfl ?_
    exact sx_iret hX hE h d_Mo_mostOf_50
  · replace h := sx_f h hc1
    by_cases hc2 : x0 = 1
    · replace h := sx_t h hc2
      refine sx_swi (tgt := 51) hX 1 hc2 d_Mo_mostOf_1 (by decide) (by decide) rfl (by decide) ?_
      refine sx_iconst (v := 4) (pc2 := 52) hX d_Mo_mostOf_51 (by decide) rfl ?_
      exact sx_iret hX hE h d_Mo_mostOf_52
    · replace h := sx_f h hc2
      by_cases hc3 : x0 = 2
      · replace h := sx_t h hc3
        refine sx_swi (tgt := 53) hX 2 hc3 d_Mo_mostOf_1 (by decide) (by decide) rfl (by decide) ?_
        refine sx_bipush (v := 9) (pc2 := 55) hX d_Mo_mostOf_53 (by decide) rfl ?_
        exact sx_iret hX hE h d_Mo_mostOf_55
      · replace h := sx_f h hc3
        by_cases hc4 : x0 = 3
        · replace h := sx_t h hc4
          refine sx_swi (tgt := 56) hX 3 hc4 d_Mo_mostOf_1 (by decide) (by decide) rfl (by decide) ?_
          refine sx_bipush (v := 99) (pc2 := 58) hX d_Mo_mostOf_56 (by decide) rfl ?_
          exact sx_iret hX hE h d_Mo_mostOf_58
        · replace h := sx_f h hc4
          by_cases hc5 : x0 = 4
          · replace h := sx_t h hc5
            refine sx_swi (tgt := 59) hX 4 hc5 d_Mo_mostOf_1 (by decide) (by decide) rfl (by decide) ?_
            refine sx_sipush (v := 999) (pc2 := 62) hX d_Mo_mostOf_59 (by decide) rfl ?_
            exact sx_iret hX hE h d_Mo_mostOf_62
          · replace h := sx_f h hc5
            by_cases hc6 : x0 = 5
            · replace h := sx_t h hc6
              refine sx_swi (tgt := 63) hX 5 hc6 d_Mo_mostOf_1 (by decide) (by decide) rfl (by decide) ?_
              refine sx_bipush (v := 20) (pc2 := 65) hX d_Mo_mostOf_63 (by decide) rfl ?_
              exact sx_iret hX hE h d_Mo_mostOf_65
            · replace h := sx_f h hc6
              by_cases hc7 : x0 = 6
              · replace h := sx_t h hc7
                refine sx_swi (tgt := 66) hX 6 hc7 d_Mo_mostOf_1 (by decide) (by decide) rfl (by decide) ?_
                refine sx_bipush (v := 60) (pc2 := 68) hX d_Mo_mostOf_66 (by decide) rfl ?_
                exact sx_iret hX hE h d_Mo_mostOf_68
              · replace h := sx_f h hc7
                by_cases hc8 : x0 = 7
                · replace h := sx_t h hc8
                  refine sx_swi (tgt := 69) hX 7 hc8 d_Mo_mostOf_1 (by decide) (by decide) rfl (by decide) ?_
                  refine sx_bipush (v := 100) (pc2 := 71) hX d_Mo_mostOf_69 (by decide) rfl ?_
                  exact sx_iret hX hE h d_Mo_mostOf_71
                · replace h := sx_f h hc8
                  refine sx_swo (tgt := 72) hX d_Mo_mostOf_1 (sx_out x0 7 (fun j hj => match j, hj with | 0, _ => hc1 | 1, _ => hc2 | 2, _ => hc3 | 3, _ => hc4 | 4, _ => hc5 | 5, _ => hc6 | 6, _ => hc7 | 7, _ => hc8 | j + 8, hj => absurd hj (by omega)) (by decide)) (by decide) ?_
                  refine sx_sipush (v := 9999) (pc2 := 75) hX d_Mo_mostOf_72 (by decide) rfl ?_
                  exact sx_iret hX hE h d_Mo_mostOf_75
theorem cl_Mo_202 {X : sx_T} {K : sx_K} {cc : ByteArray} {nL : Nat} {ret : Option FieldType} {rm : Room} {l : Launch} {pc pc2 : Nat} {lv : List (Nat × Value)} {st : List Value} {σ : sx_M} {τ : sx_L} {x0 : Int32} {Q : Int32 → sx_M → sx_L → Prop} (hX : sx_C X K cc nL "SensorTreeModel" ret rm l) (hK : kx_F K) (h : wp_Mo_mostOf x0 σ τ Q)  (hR : rm_Mo_mostOf.frames + 1 ≤ rm.frames ∧ 8 + (1 + 11) + rm_Mo_mostOf.locals ≤ rm.locals) (hst : (st.map fun v => v.category).sum ≤ 8) (hd : decode cc pc = .ok (.invokestatic 202, 3)) (hpc : pc + 3 = pc2) (kk : ∀ (r : Int32) (σ2 : sx_M) (τ2 : sx_L), Q r σ2 τ2 → sx_G X K nL pc2 lv (.int r :: st) (sx_H K σ2 τ2)) : sx_G X K nL pc lv (.int x0 :: st) (sx_H K σ τ) :=
  sx_callSi (Q := Q) (As := [.int x0]) hX (c_Mo_mostOf hK x0 σ τ Q  h) lk_415 hy_Mo_mostOf lk_413 lk_364 lk_414 ⟨rfl, rfl⟩ hR hst rfl hd hpc kk
def y_Mo_tooMany : MethodName := ⟨"SensorTreeModel", "tooMany", "(I)V"⟩
theorem hy_Mo_tooMany : y_Mo_tooMany.cls ≠ "java/lang/invoke/MethodHandle" ∧ y_Mo_tooMany.cls ≠ "java/lang/invoke/VarHandle" ∧ (parseMethodDescriptor y_Mo_tooMany.desc).map (fun d => d.parameters.length) = some 1 := by decide +kernel
theorem d_Mo_tooMany_0 : decode prog_13_method_27_code 0 = .ok (.aload_n 0, 1) := by decide +kernel
theorem d_Mo_tooMany_1 : decode prog_13_method_27_code 1 = .ok (.iconst 2, 1) := by decide +kernel
theorem d_Mo_tooMany_2 : decode prog_13_method_27_code 2 = .ok (.putfield 143, 3) := by decide +kernel
theorem d_Mo_tooMany_5 : decode prog_13_method_27_code 5 = .ok (.aload_n 0, 1) := by decide +kernel
theorem d_Mo_tooMany_6 : decode prog_13_method_27_code 6 = .ok (.aload_n 0, 1) := by decide +kernel
theorem d_Mo_tooMany_7 : decode prog_13_method_27_code 7 = .ok (.getfield 24, 3) := by decide +kernel
theorem d_Mo_tooMany_10 : decode prog_13_method_27_code 10 = .ok (.iload_n 1, 1) := by decide +kernel
theorem d_Mo_tooMany_11 : decode prog_13_method_27_code 11 = .ok (.iaload, 1) := by decide +kernel
theorem d_Mo_tooMany_12 : decode prog_13_method_27_code 12 = .ok (.putfield 149, 3) := by decide +kernel
theorem d_Mo_tooMany_15 : decode prog_13_method_27_code 15 = .ok (.return_, 1) := by decide +kernel
def wp_Mo_tooMany (x1 : Int32) (σ : sx_M) (τ : sx_L) (Q : sx_M → sx_L → Prop) : Prop := ∀ σ1 : sx_M, σ1 = sx_u σ 50 0 0 12 2 → (vp_in x1 403 ∧ (∀ σ3 : sx_M, σ3 = sx_u σ1 50 0 0 13 (σ1 54 0 0 x1.toNatClampNeg) → (Q σ3 τ)))
abbrev rm_Mo_tooMany : Room := { frames := 0, cells := 0, slots := 0, locals := 0 }
set_option maxRecDepth 100000 in
set_option maxHeartbeats 4000000 in
theorem c_Mo_tooMany {l : Launch} {K : sx_K} (hK : kx_F K) (x1 : Int32) (σ : sx_M) (τ : sx_L) (Q : sx_M → sx_L → Prop)  (h : wp_Mo_tooMany x1 σ τ Q) : Met l y_Mo_tooMany (sx_wd y_Mo_tooMany prog_13_method_27_code 2 none) rm_Mo_tooMany (sx_Pc K [.ref (K.2.2.1 50 0 0), .int x1] σ τ) (sx_Qv K Q) 0 0 (sx_A K) := by
  refine sx_met (by decide) (Nat.le_of_ble_eq_true rfl) (fun X hX hE => ?_)
  replace hX : sx_C X K prog_13_method_27_code 2 "SensorTreeModel" none rm_Mo_tooMany l := hX
  show sx_G X K 2 0 [(0, .ref (K.2.2.1 50 0 0)), (1, .int x1)] [] (sx_H K σ τ)
  unfold wp_Mo_tooMany at h
  refine sx_aload_n (pc2 := 1) hX 0 d_Mo_tooMany_0 rfl rfl rfl ?_
  refine sx_iconst (v := 2) (pc2 := 2) hX d_Mo_tooMany_1 (by decide) rfl ?_
  refine fp_Mo_143 (pc2 := 5) hX (kr_50 hK) d_Mo_tooMany_2 rfl ?_
  refine sx_nm (fun σ1 e1 => ?_)
  replace h := h σ1 e1
  refine sx_aload_n (pc2 := 6) hX 0 d_Mo_tooMany_5 rfl rfl rfl ?_
  refine sx_aload_n (pc2 := 7) hX 0 d_Mo_tooMany_6 rfl rfl rfl ?_
  refine fg_Mo_24 (pc2 := 10) hX (kr_50 hK) d_Mo_tooMany_7 rfl ?_
  refine sx_iload_n (pc2 := 11) hX 1 d_Mo_tooMany_10 rfl rfl rfl ?_
  obtain ⟨hc2, h⟩ := h
  refine sx_iald (pc2 := 12) hX (kr_54 hK) rfl hc2 d_Mo_tooMany_11 rfl ?_
  refine fp_Mo_149 (pc2 := 15) hX (kr_50 hK) d_Mo_tooMany_12 rfl ?_
  refine sx_nm (fun σ3 e3 => ?_)
  replace h := h σ3 e3
  exact sx_vret hX hE h d_Mo_tooMany_15
theorem cl_Mo_190 {X : sx_T} {K : sx_K} {cc : ByteArray} {nL : Nat} {ret : Option FieldType} {rm : Room} {l : Launch} {pc pc2 : Nat} {lv : List (Nat × Value)} {st : List Value} {σ : sx_M} {τ : sx_L} {x1 : Int32} {Q : sx_M → sx_L → Prop} (hX : sx_C X K cc nL "SensorTreeModel" ret rm l) (hK : kx_F K) (h : wp_Mo_tooMany x1 σ τ Q)  (hR : rm_Mo_tooMany.frames + 1 ≤ rm.frames ∧ 8 + (2 + 11) + rm_Mo_tooMany.locals ≤ rm.locals) (hst : (st.map fun v => v.category).sum ≤ 8) (hd : decode cc pc = .ok (.invokevirtual 190, 3)) (hpc : pc + 3 = pc2) (kk : ∀ (σ2 : sx_M) (τ2 : sx_L), Q σ2 τ2 → sx_G X K nL pc2 lv (st) (sx_H K σ2 τ2)) : sx_G X K nL pc lv (.int x1 :: .ref (K.2.2.1 50 0 0) :: st) (sx_H K σ τ) :=
  sx_callVv (Q := Q) (As := [.int x1]) hX (c_Mo_tooMany hK x1 σ τ Q  h) (kr_50 hK) rfl rfl lk_424 ls_53 hy_Mo_tooMany lk_422 lk_364 lk_423 ⟨rfl, rfl⟩ hR hst rfl hd hpc kk
def y_Mo_named : MethodName := ⟨"SensorTreeModel", "named", "(J)I"⟩
theorem hy_Mo_named : y_Mo_named.cls ≠ "java/lang/invoke/MethodHandle" ∧ y_Mo_named.cls ≠ "java/lang/invoke/VarHandle" ∧ (parseMethodDescriptor y_Mo_named.desc).map (fun d => d.parameters.length) = some 1 := by decide +kernel
theorem d_Mo_named_0 : decode prog_13_method_25_code 0 = .ok (.iconst 0, 1) := by decide +kernel
theorem d_Mo_named_1 : decode prog_13_method_25_code 1 = .ok (.istore_n 3, 1) := by decide +kernel
theorem d_Mo_named_2 : decode prog_13_method_25_code 2 = .ok (.iload_n 3, 1) := by decide +kernel
theorem d_Mo_named_3 : decode prog_13_method_25_code 3 = .ok (.aload_n 0, 1) := by decide +kernel
theorem d_Mo_named_4 : decode prog_13_method_25_code 4 = .ok (.getfield 40, 3) := by decide +kernel
theorem d_Mo_named_7 : decode prog_13_method_25_code 7 = .ok (.aload_n 0, 1) := by decide +kernel
theorem d_Mo_named_8 : decode prog_13_method_25_code 8 = .ok (.getfield 173, 3) := by decide +kernel
theorem d_Mo_named_11 : decode prog_13_method_25_code 11 = .ok (.iaload, 1) := by decide +kernel
theorem d_Mo_named_12 : decode prog_13_method_25_code 12 = .ok (.if_icmp .ge 30, 3) := by decide +kernel
theorem d_Mo_named_15 : decode prog_13_method_25_code 15 = .ok (.aload_n 0, 1) := by decide +kernel
theorem d_Mo_named_16 : decode prog_13_method_25_code 16 = .ok (.getfield 46, 3) := by decide +kernel
theorem d_Mo_named_19 : decode prog_13_method_25_code 19 = .ok (.bipush 7, 2) := by decide +kernel
theorem d_Mo_named_21 : decode prog_13_method_25_code 21 = .ok (.aload_n 0, 1) := by decide +kernel
theorem d_Mo_named_22 : decode prog_13_method_25_code 22 = .ok (.getfield 173, 3) := by decide +kernel
theorem d_Mo_named_25 : decode prog_13_method_25_code 25 = .ok (.imul, 1) := by decide +kernel
theorem d_Mo_named_26 : decode prog_13_method_25_code 26 = .ok (.iload_n 3, 1) := by decide +kernel
theorem d_Mo_named_27 : decode prog_13_method_25_code 27 = .ok (.iadd, 1) := by decide +kernel
theorem d_Mo_named_28 : decode prog_13_method_25_code 28 = .ok (.laload, 1) := by decide +kernel
theorem d_Mo_named_29 : decode prog_13_method_25_code 29 = .ok (.lload_n 1, 1) := by decide +kernel
theorem d_Mo_named_30 : decode prog_13_method_25_code 30 = .ok (.lcmp, 1) := by decide +kernel
theorem d_Mo_named_31 : decode prog_13_method_25_code 31 = .ok (.ifCond .ne 5, 3) := by decide +kernel
theorem d_Mo_named_34 : decode prog_13_method_25_code 34 = .ok (.iload_n 3, 1) := by decide +kernel
theorem d_Mo_named_35 : decode prog_13_method_25_code 35 = .ok (.ireturn, 1) := by decide +kernel
theorem d_Mo_named_36 : decode prog_13_method_25_code 36 = .ok (.iinc 3 1, 3) := by decide +kernel
theorem d_Mo_named_39 : decode prog_13_method_25_code 39 = .ok (.goto (-37), 3) := by decide +kernel
theorem d_Mo_named_42 : decode prog_13_method_25_code 42 = .ok (.iconst (-1), 1) := by decide +kernel
theorem d_Mo_named_43 : decode prog_13_method_25_code 43 = .ok (.ireturn, 1) := by decide +kernel
def wp_Mo_named_b2   (Q : Int32 → sx_M → sx_L → Prop) : Nat → Int64 → Int32 → sx_M → sx_L → Prop
  | 0, _, _, _, _ => False
  | f + 1, v1, v3, σ, τ => vp_in (σ 50 0 0 18) 2 ∧ (if σ 58 0 0 (σ 50 0 0 18).toNatClampNeg ≤ v3 then (Q (-1) σ τ) else (vp_in ((7 * (σ 50 0 0 18)) + v3) 14 ∧ (if lg_cmp (τ 60 ((7 * (σ 50 0 0 18)) + v3).toNatClampNeg) v1 = 0 then (Q v3 σ τ) else (wp_Mo_named_b2 Q f v1 (v3 + 1) σ τ))))
def wp_Mo_named (x1 : Int64) (σ : sx_M) (τ : sx_L) (Q : Int32 → sx_M → sx_L → Prop) : Prop := ∃ f2, wp_Mo_named_b2 Q f2 x1 0 σ τ
abbrev rm_Mo_named : Room := { frames := 0, cells := 0, slots := 0, locals := 0 }
set_option maxRecDepth 100000 in
set_option maxHeartbeats 4000000 in
theorem g_Mo_named_b2 {l : Launch} {K : sx_K} {X : sx_T}   {Q : Int32 → sx_M → sx_L → Prop} (hX : sx_C X K prog_13_method_25_code 4 "SensorTreeModel" (some .int) rm_Mo_named l) (hK : kx_F K) (hE : sx_E X K (sx_Qi K Q))  : ∀ (f : Nat) (v1 : Int64) (v3 : Int32) (σ : sx_M) (τ : sx_L) , wp_Mo_named_b2 Q f v1 v3 σ τ → sx_G X K 4 2 [(0, .ref (K.2.2.1 50 0 0)), (1, .long v1), (3, .int v3)] [] (sx_H K σ τ) := by
  intro f
  induction f with
  | zero => intro v1 v3 σ τ h; exact (show False from h).elim
  | succ f ih =>
    intro v1 v3 σ τ h
    rw [wp_Mo_named_b2] at h
    refine sx_iload_n (pc2 := 3) hX 2 d_Mo_named_2 rfl rfl rfl ?_
    refine sx_aload_n (pc2 := 4) hX 0 d_Mo_named_3 rfl rfl rfl ?_
    refine fg_Mo_40 (pc2 := 7) hX (kr_50 hK) d_Mo_named_4 rfl ?_
    refine sx_aload_n (pc2 := 8) hX 0 d_Mo_named_7 rfl rfl rfl ?_
    refine fg_Mo_173 (pc2 := 11) hX (kr_50 hK) d_Mo_named_8 rfl ?_
    obtain ⟨hc1, h⟩ := h
    refine sx_iald (pc2 := 12) hX (kr_58 hK) rfl hc1 d_Mo_named_11 rfl ?_
    refine sx_icmp_ge (tgt := 42) (pc2 := 15) hX d_Mo_named_12 (by decide) rfl (fun hc2 => ?_) (fun hc2 => ?_)
    · replace h := sx_t h hc2
      refine sx_iconst (v := (-1)) (pc2 := 43) hX d_Mo_named_42 (by decide) rfl ?_
      exact sx_iret hX hE h d_Mo_named_43
    · replace h := sx_f h hc2
      refine sx_aload_n (pc2 := 16) hX 0 d_Mo_named_15 rfl rfl rfl ?_
      refine fg_Mo_46 (pc2 := 19) hX (kr_50 hK) d_Mo_named_16 rfl ?_
      refine sx_bipush (v := 7) (pc2 := 21) hX d_Mo_named_19 (by decide) rfl ?_
      refine sx_aload_n (pc2 := 22) hX 0 d_Mo_named_21 rfl rfl rfl ?_
      refine fg_Mo_173 (pc2 := 25) hX (kr_50 hK) d_Mo_named_22 rfl ?_
      refine sx_imul (pc2 := 26) hX d_Mo_named_25 rfl ?_
      refine sx_iload_n (pc2 := 27) hX 2 d_Mo_named_26 rfl rfl rfl ?_
      refine sx_iadd (pc2 := 28) hX d_Mo_named_27 rfl ?_
      obtain ⟨hc3, h⟩ := h
      refine sx_lald (pc2 := 29) hX (kr_60 hK) rfl hc3 d_Mo_named_28 rfl ?_
      refine sx_lload_n (pc2 := 30) hX 1 d_Mo_named_29 rfl rfl rfl ?_
      refine sx_lcmp (pc2 := 31) hX d_Mo_named_30 rfl ?_
      refine sx_if_ne (tgt := 36) (pc2 := 34) hX d_Mo_named_31 (by decide) rfl (fun hc4 => ?_) (fun hc4 => ?_)
      · replace h := sx_f h hc4
        refine sx_iinc (pc2 := 39) hX 2 _ [(0, .ref (K.2.2.1 50 0 0)), (1, .long v1), (3, .int (v3 + 1))] [1, 2, 0] d_Mo_named_36 rfl (v3 + 1) rfl (by decide) rfl rfl rfl ?_
        refine sx_goto (tgt := 2) hX d_Mo_named_39 (by decide) ?_
        exact ih v1 (v3 + 1) _ _ h
      · replace h := sx_t h hc4
        refine sx_iload_n (pc2 := 35) hX 2 d_Mo_named_34 rfl rfl rfl ?_
        exact sx_iret hX hE h d_Mo_named_35
set_option maxRecDepth 100000 in
set_option maxHeartbeats 4000000 in
theorem c_Mo_named {l : Launch} {K : sx_K} (hK : kx_F K) (x1 : Int64) (σ : sx_M) (τ : sx_L) (Q : Int32 → sx_M → sx_L → Prop)  (h : wp_Mo_named x1 σ τ Q) : Met l y_Mo_named (sx_wd y_Mo_named prog_13_method_25_code 4 (some .int)) rm_Mo_named (sx_Pc K [.ref (K.2.2.1 50 0 0), .long x1] σ τ) (sx_Qi K Q) 0 0 (sx_A K) := by
  refine sx_met (by decide) (Nat.le_of_ble_eq_true rfl) (fun X hX hE => ?_)
  replace hX : sx_C X K prog_13_method_25_code 4 "SensorTreeModel" (some .int) rm_Mo_named l := hX
  show sx_G X K 4 0 [(0, .ref (K.2.2.1 50 0 0)), (1, .long x1)] [] (sx_H K σ τ)
  unfold wp_Mo_named at h
  refine sx_iconst (v := 0) (pc2 := 1) hX d_Mo_named_0 (by decide) rfl ?_
  refine sx_istore_n (pc2 := 2) hX _ [(0, .ref (K.2.2.1 50 0 0)), (1, .long x1), (3, .int 0)] [1, 2, 0] d_Mo_named_1 rfl (by decide) rfl rfl rfl ?_
  obtain ⟨f2, h⟩ := h
  exact g_Mo_named_b2 hX hK hE   f2 x1 0 _ _ h
theorem cl_Mo_186 {X : sx_T} {K : sx_K} {cc : ByteArray} {nL : Nat} {ret : Option FieldType} {rm : Room} {l : Launch} {pc pc2 : Nat} {lv : List (Nat × Value)} {st : List Value} {σ : sx_M} {τ : sx_L} {x1 : Int64} {Q : Int32 → sx_M → sx_L → Prop} (hX : sx_C X K cc nL "SensorTreeModel" ret rm l) (hK : kx_F K) (h : wp_Mo_named x1 σ τ Q)  (hR : rm_Mo_named.frames + 1 ≤ rm.frames ∧ 8 + (4 + 11) + rm_Mo_named.locals ≤ rm.locals) (hst : (st.map fun v => v.category).sum ≤ 8) (hd : decode cc pc = .ok (.invokevirtual 186, 3)) (hpc : pc + 3 = pc2) (kk : ∀ (r : Int32) (σ2 : sx_M) (τ2 : sx_L), Q r σ2 τ2 → sx_G X K nL pc2 lv (.int r :: st) (sx_H K σ2 τ2)) : sx_G X K nL pc lv (.long x1 :: .ref (K.2.2.1 50 0 0) :: st) (sx_H K σ τ) :=
  sx_callVi (Q := Q) (As := [.long x1]) hX (c_Mo_named hK x1 σ τ Q  h) (kr_50 hK) rfl rfl lk_397 ls_56 hy_Mo_named lk_395 lk_364 lk_396 ⟨rfl, rfl⟩ hR hst rfl hd hpc kk
def y_Mo_tellPost : MethodName := ⟨"SensorTreeModel", "tellPost", "()V"⟩
theorem hy_Mo_tellPost : y_Mo_tellPost.cls ≠ "java/lang/invoke/MethodHandle" ∧ y_Mo_tellPost.cls ≠ "java/lang/invoke/VarHandle" ∧ (parseMethodDescriptor y_Mo_tellPost.desc).map (fun d => d.parameters.length) = some 0 := by decide +kernel
theorem d_Mo_tellPost_0 : decode prog_13_method_29_code 0 = .ok (.aload_n 0, 1) := by decide +kernel
theorem d_Mo_tellPost_1 : decode prog_13_method_29_code 1 = .ok (.iconst 1, 1) := by decide +kernel
theorem d_Mo_tellPost_2 : decode prog_13_method_29_code 2 = .ok (.invokevirtual 161, 3) := by decide +kernel
theorem d_Mo_tellPost_5 : decode prog_13_method_29_code 5 = .ok (.ifCond .ne 9, 3) := by decide +kernel
theorem d_Mo_tellPost_8 : decode prog_13_method_29_code 8 = .ok (.aload_n 0, 1) := by decide +kernel
theorem d_Mo_tellPost_9 : decode prog_13_method_29_code 9 = .ok (.iconst 1, 1) := by decide +kernel
theorem d_Mo_tellPost_10 : decode prog_13_method_29_code 10 = .ok (.invokevirtual 158, 3) := by decide +kernel
theorem d_Mo_tellPost_13 : decode prog_13_method_29_code 13 = .ok (.return_, 1) := by decide +kernel
theorem d_Mo_tellPost_14 : decode prog_13_method_29_code 14 = .ok (.aload_n 0, 1) := by decide +kernel
theorem d_Mo_tellPost_15 : decode prog_13_method_29_code 15 = .ok (.aload_n 0, 1) := by decide +kernel
theorem d_Mo_tellPost_16 : decode prog_13_method_29_code 16 = .ok (.getfield 30, 3) := by decide +kernel
theorem d_Mo_tellPost_19 : decode prog_13_method_29_code 19 = .ok (.aload_n 0, 1) := by decide +kernel
theorem d_Mo_tellPost_20 : decode prog_13_method_29_code 20 = .ok (.getfield 146, 3) := by decide +kernel
theorem d_Mo_tellPost_23 : decode prog_13_method_29_code 23 = .ok (.laload, 1) := by decide +kernel
theorem d_Mo_tellPost_24 : decode prog_13_method_29_code 24 = .ok (.invokevirtual 186, 3) := by decide +kernel
theorem d_Mo_tellPost_27 : decode prog_13_method_29_code 27 = .ok (.ifCond .lt 12, 3) := by decide +kernel
theorem d_Mo_tellPost_30 : decode prog_13_method_29_code 30 = .ok (.aload_n 0, 1) := by decide +kernel
theorem d_Mo_tellPost_31 : decode prog_13_method_29_code 31 = .ok (.iconst 3, 1) := by decide +kernel
theorem d_Mo_tellPost_32 : decode prog_13_method_29_code 32 = .ok (.aload_n 0, 1) := by decide +kernel
theorem d_Mo_tellPost_33 : decode prog_13_method_29_code 33 = .ok (.getfield 146, 3) := by decide +kernel
theorem d_Mo_tellPost_36 : decode prog_13_method_29_code 36 = .ok (.invokevirtual 182, 3) := by decide +kernel
theorem d_Mo_tellPost_39 : decode prog_13_method_29_code 39 = .ok (.aload_n 0, 1) := by decide +kernel
theorem d_Mo_tellPost_40 : decode prog_13_method_29_code 40 = .ok (.getfield 46, 3) := by decide +kernel
theorem d_Mo_tellPost_43 : decode prog_13_method_29_code 43 = .ok (.bipush 7, 2) := by decide +kernel
theorem d_Mo_tellPost_45 : decode prog_13_method_29_code 45 = .ok (.aload_n 0, 1) := by decide +kernel
theorem d_Mo_tellPost_46 : decode prog_13_method_29_code 46 = .ok (.getfield 173, 3) := by decide +kernel
theorem d_Mo_tellPost_49 : decode prog_13_method_29_code 49 = .ok (.imul, 1) := by decide +kernel
theorem d_Mo_tellPost_50 : decode prog_13_method_29_code 50 = .ok (.aload_n 0, 1) := by decide +kernel
theorem d_Mo_tellPost_51 : decode prog_13_method_29_code 51 = .ok (.getfield 40, 3) := by decide +kernel
theorem d_Mo_tellPost_54 : decode prog_13_method_29_code 54 = .ok (.aload_n 0, 1) := by decide +kernel
theorem d_Mo_tellPost_55 : decode prog_13_method_29_code 55 = .ok (.getfield 173, 3) := by decide +kernel
theorem d_Mo_tellPost_58 : decode prog_13_method_29_code 58 = .ok (.iaload, 1) := by decide +kernel
theorem d_Mo_tellPost_59 : decode prog_13_method_29_code 59 = .ok (.iadd, 1) := by decide +kernel
theorem d_Mo_tellPost_60 : decode prog_13_method_29_code 60 = .ok (.aload_n 0, 1) := by decide +kernel
theorem d_Mo_tellPost_61 : decode prog_13_method_29_code 61 = .ok (.getfield 30, 3) := by decide +kernel
theorem d_Mo_tellPost_64 : decode prog_13_method_29_code 64 = .ok (.aload_n 0, 1) := by decide +kernel
theorem d_Mo_tellPost_65 : decode prog_13_method_29_code 65 = .ok (.getfield 146, 3) := by decide +kernel
theorem d_Mo_tellPost_68 : decode prog_13_method_29_code 68 = .ok (.laload, 1) := by decide +kernel
theorem d_Mo_tellPost_69 : decode prog_13_method_29_code 69 = .ok (.lastore, 1) := by decide +kernel
theorem d_Mo_tellPost_70 : decode prog_13_method_29_code 70 = .ok (.aload_n 0, 1) := by decide +kernel
theorem d_Mo_tellPost_71 : decode prog_13_method_29_code 71 = .ok (.getfield 40, 3) := by decide +kernel
theorem d_Mo_tellPost_74 : decode prog_13_method_29_code 74 = .ok (.aload_n 0, 1) := by decide +kernel
theorem d_Mo_tellPost_75 : decode prog_13_method_29_code 75 = .ok (.getfield 173, 3) := by decide +kernel
theorem d_Mo_tellPost_78 : decode prog_13_method_29_code 78 = .ok (.dup2, 1) := by decide +kernel
theorem d_Mo_tellPost_79 : decode prog_13_method_29_code 79 = .ok (.iaload, 1) := by decide +kernel
theorem d_Mo_tellPost_80 : decode prog_13_method_29_code 80 = .ok (.iconst 1, 1) := by decide +kernel
theorem d_Mo_tellPost_81 : decode prog_13_method_29_code 81 = .ok (.iadd, 1) := by decide +kernel
theorem d_Mo_tellPost_82 : decode prog_13_method_29_code 82 = .ok (.iastore, 1) := by decide +kernel
theorem d_Mo_tellPost_83 : decode prog_13_method_29_code 83 = .ok (.aload_n 0, 1) := by decide +kernel
theorem d_Mo_tellPost_84 : decode prog_13_method_29_code 84 = .ok (.invokevirtual 164, 3) := by decide +kernel
theorem d_Mo_tellPost_87 : decode prog_13_method_29_code 87 = .ok (.return_, 1) := by decide +kernel
def wp_Mo_tellPost_b39   (Q : sx_M → sx_L → Prop)  (σ : sx_M) (τ : sx_L) : Prop := vp_in (σ 50 0 0 18) 2 ∧ (vp_in (σ 50 0 0 11) 403 ∧ (vp_in ((7 * (σ 50 0 0 18)) + (σ 58 0 0 (σ 50 0 0 18).toNatClampNeg)) 14 ∧ (∀ τ4 : sx_L, τ4 = sx_ul τ 60 ((7 * (σ 50 0 0 18)) + (σ 58 0 0 (σ 50 0 0 18).toNatClampNeg)).toNatClampNeg (τ 56 (σ 50 0 0 11).toNatClampNeg) → (vp_in (σ 50 0 0 18) 2 ∧ (vp_in (σ 50 0 0 18) 2 ∧ (∀ σ7 : sx_M, σ7 = sx_u σ 58 0 0 (σ 50 0 0 18).toNatClampNeg ((σ 58 0 0 (σ 50 0 0 18).toNatClampNeg) + 1) → (wp_Mo_goesOn σ7 τ4 (fun σ8 τ8 => Q σ8 τ8))))))))
def wp_Mo_tellPost  (σ : sx_M) (τ : sx_L) (Q : sx_M → sx_L → Prop) : Prop := wp_Mo_is (1 : Int32) σ τ (fun r9 σ9 τ9 => if r9 = 0 then (wp_Mo_fail (1 : Int32) σ9 τ9 (fun σ15 τ15 => Q σ15 τ15)) else (vp_in (σ9 50 0 0 11) 403 ∧ (wp_Mo_named (τ9 56 (σ9 50 0 0 11).toNatClampNeg) σ9 τ9 (fun r12 σ12 τ12 => if r12 < 0 then (wp_Mo_tellPost_b39 Q σ12 τ12) else (wp_Mo_wrong (3 : Int32) (σ12 50 0 0 11) σ12 τ12 (fun σ14 τ14 => wp_Mo_tellPost_b39 Q σ14 τ14))))))
abbrev rm_Mo_tellPost : Room := { frames := 2, cells := 0, slots := 0, locals := 41 }
set_option maxRecDepth 100000 in
set_option maxHeartbeats 4000000 in
theorem g_Mo_tellPost_b39 {l : Launch} {K : sx_K} {X : sx_T}   {Q : sx_M → sx_L → Prop} (hX : sx_C X K prog_13_method_29_code 1 "SensorTreeModel" none rm_Mo_tellPost l) (hK : kx_F K) (hE : sx_E X K (sx_Qv K Q))   (σ : sx_M) (τ : sx_L)  (h : wp_Mo_tellPost_b39 Q  σ τ) : sx_G X K 1 39 [(0, .ref (K.2.2.1 50 0 0))] [] (sx_H K σ τ) := by
  unfold wp_Mo_tellPost_b39 at h
  refine sx_aload_n (pc2 := 40) hX 0 d_Mo_tellPost_39 rfl rfl rfl ?_
  refine fg_Mo_46 (pc2 := 43) hX (kr_50 hK) d_Mo_tellPost_40 rfl ?_
  refine sx_bipush (v := 7) (pc2 := 45) hX d_Mo_tellPost_43 (by decide) rfl ?_
  refine sx_aload_n (pc2 := 46) hX 0 d_Mo_tellPost_45 rfl rfl rfl ?_
  refine fg_Mo_173 (pc2 := 49) hX (kr_50 hK) d_Mo_tellPost_46 rfl ?_
  refine sx_imul (pc2 := 50) hX d_Mo_tellPost_49 rfl ?_
  refine sx_aload_n (pc2 := 51) hX 0 d_Mo_tellPost_50 rfl rfl rfl ?_
  refine fg_Mo_40 (pc2 := 54) hX (kr_50 hK) d_Mo_tellPost_51 rfl ?_
  refine sx_aload_n (pc2 := 55) hX 0 d_Mo_tellPost_54 rfl rfl rfl ?_
  refine fg_Mo_173 (pc2 := 58) hX (kr_50 hK) d_Mo_tellPost_55 rfl ?_
  obtain ⟨hc1, h⟩ := h
  refine sx_iald (pc2 := 59) hX (kr_58 hK) rfl hc1 d_Mo_tellPost_58 rfl ?_
  refine sx_iadd (pc2 := 60) hX d_Mo_tellPost_59 rfl ?_
  refine sx_aload_n (pc2 := 61) hX 0 d_Mo_tellPost_60 rfl rfl rfl ?_
  refine fg_Mo_30 (pc2 := 64) hX (kr_50 hK) d_Mo_tellPost_61 rfl ?_
  refine sx_aload_n (pc2 := 65) hX 0 d_Mo_tellPost_64 rfl rfl rfl ?_
  refine fg_Mo_146 (pc2 := 68) hX (kr_50 hK) d_Mo_tellPost_65 rfl ?_
  obtain ⟨hc2, h⟩ := h
  refine sx_lald (pc2 := 69) hX (kr_56 hK) rfl hc2 d_Mo_tellPost_68 rfl ?_
  obtain ⟨hc3, h⟩ := h
  refine sx_last (pc2 := 70) hX (kr_60 hK) (fun n p q => hK.2 60 n p q) (fun _ => rfl) hc3 d_Mo_tellPost_69 rfl ?_
  refine sx_nml (fun τ4 e4 => ?_)
  replace h := h τ4 e4
  refine sx_aload_n (pc2 := 71) hX 0 d_Mo_tellPost_70 rfl rfl rfl ?_
  refine fg_Mo_40 (pc2 := 74) hX (kr_50 hK) d_Mo_tellPost_71 rfl ?_
  refine sx_aload_n (pc2 := 75) hX 0 d_Mo_tellPost_74 rfl rfl rfl ?_
  refine fg_Mo_173 (pc2 := 78) hX (kr_50 hK) d_Mo_tellPost_75 rfl ?_
  refine sx_dup2 (pc2 := 79) hX d_Mo_tellPost_78 rfl rfl rfl ?_
  obtain ⟨hc5, h⟩ := h
  refine sx_iald (pc2 := 80) hX (kr_58 hK) rfl hc5 d_Mo_tellPost_79 rfl ?_
  refine sx_iconst (v := 1) (pc2 := 81) hX d_Mo_tellPost_80 (by decide) rfl ?_
  refine sx_iadd (pc2 := 82) hX d_Mo_tellPost_81 rfl ?_
  obtain ⟨hc6, h⟩ := h
  refine sx_iast (pc2 := 83) hX (kr_58 hK) (fun _ => rfl) hc6 d_Mo_tellPost_82 rfl ?_
  refine sx_nm (fun σ7 e7 => ?_)
  replace h := h σ7 e7
  refine sx_aload_n (pc2 := 84) hX 0 d_Mo_tellPost_83 rfl rfl rfl ?_
  refine cl_Mo_164 (pc2 := 87) hX hK h  ⟨Nat.le_of_ble_eq_true rfl, Nat.le_of_ble_eq_true rfl⟩ (Nat.le_of_ble_eq_true rfl) d_Mo_tellPost_84 rfl (fun σ8 τ8 h => ?_)
  exact sx_vret hX hE h d_Mo_tellPost_87
set_option maxRecDepth 100000 in
set_option maxHeartbeats 4000000 in
theorem c_Mo_tellPost {l : Launch} {K : sx_K} (hK : kx_F K)  (σ : sx_M) (τ : sx_L) (Q : sx_M → sx_L → Prop)  (h : wp_Mo_tellPost σ τ Q) : Met l y_Mo_tellPost (sx_wd y_Mo_tellPost prog_13_method_29_code 1 none) rm_Mo_tellPost (sx_Pc K [.ref (K.2.2.1 50 0 0)] σ τ) (sx_Qv K Q) 0 0 (sx_A K) := by
  refine sx_met (by decide) (Nat.le_of_ble_eq_true rfl) (fun X hX hE => ?_)
  replace hX : sx_C X K prog_13_method_29_code 1 "SensorTreeModel" none rm_Mo_tellPost l := hX
  show sx_G X K 1 0 [(0, .ref (K.2.2.1 50 0 0))] [] (sx_H K σ τ)
  unfold wp_Mo_tellPost at h
  refine sx_aload_n (pc2 := 1) hX 0 d_Mo_tellPost_0 rfl rfl rfl ?_
  refine sx_iconst (v := 1) (pc2 := 2) hX d_Mo_tellPost_1 (by decide) rfl ?_
  refine cl_Mo_161 (pc2 := 5) hX hK h  ⟨Nat.le_of_ble_eq_true rfl, Nat.le_of_ble_eq_true rfl⟩ (Nat.le_of_ble_eq_true rfl) d_Mo_tellPost_2 rfl (fun r9 σ9 τ9 h => ?_)
  refine sx_if_ne (tgt := 14) (pc2 := 8) hX d_Mo_tellPost_5 (by decide) rfl (fun hc10 => ?_) (fun hc10 => ?_)
  · replace h := sx_f h hc10
    refine sx_aload_n (pc2 := 15) hX 0 d_Mo_tellPost_14 rfl rfl rfl ?_
    refine sx_aload_n (pc2 := 16) hX 0 d_Mo_tellPost_15 rfl rfl rfl ?_
    refine fg_Mo_30 (pc2 := 19) hX (kr_50 hK) d_Mo_tellPost_16 rfl ?_
    refine sx_aload_n (pc2 := 20) hX 0 d_Mo_tellPost_19 rfl rfl rfl ?_
    refine fg_Mo_146 (pc2 := 23) hX (kr_50 hK) d_Mo_tellPost_20 rfl ?_
    obtain ⟨hc11, h⟩ := h
    refine sx_lald (pc2 := 24) hX (kr_56 hK) rfl hc11 d_Mo_tellPost_23 rfl ?_
    refine cl_Mo_186 (pc2 := 27) hX hK h  ⟨Nat.le_of_ble_eq_true rfl, Nat.le_of_ble_eq_true rfl⟩ (Nat.le_of_ble_eq_true rfl) d_Mo_tellPost_24 rfl (fun r12 σ12 τ12 h => ?_)
    refine sx_if_lt (tgt := 39) (pc2 := 30) hX d_Mo_tellPost_27 (by decide) rfl (fun hc13 => ?_) (fun hc13 => ?_)
    · replace h := sx_t h hc13
      exact g_Mo_tellPost_b39 hX hK hE   _ _ h
    · replace h := sx_f h hc13
      refine sx_aload_n (pc2 := 31) hX 0 d_Mo_tellPost_30 rfl rfl rfl ?_
      refine sx_iconst (v := 3) (pc2 := 32) hX d_Mo_tellPost_31 (by decide) rfl ?_
      refine sx_aload_n (pc2 := 33) hX 0 d_Mo_tellPost_32 rfl rfl rfl ?_
      refine fg_Mo_146 (pc2 := 36) hX (kr_50 hK) d_Mo_tellPost_33 rfl ?_
      refine cl_Mo_182 (pc2 := 39) hX hK h  ⟨Nat.le_of_ble_eq_true rfl, Nat.le_of_ble_eq_true rfl⟩ (Nat.le_of_ble_eq_true rfl) d_Mo_tellPost_36 rfl (fun σ14 τ14 h => ?_)
      exact g_Mo_tellPost_b39 hX hK hE   _ _ h
  · replace h := sx_t h hc10
    refine sx_aload_n (pc2 := 9) hX 0 d_Mo_tellPost_8 rfl rfl rfl ?_
    refine sx_iconst (v := 1) (pc2 := 10) hX d_Mo_tellPost_9 (by decide) rfl ?_
    refine cl_Mo_158 (pc2 := 13) hX hK h  ⟨Nat.le_of_ble_eq_true rfl, Nat.le_of_ble_eq_true rfl⟩ (Nat.le_of_ble_eq_true rfl) d_Mo_tellPost_10 rfl (fun σ15 τ15 h => ?_)
    exact sx_vret hX hE h d_Mo_tellPost_13
theorem cl_Mo_193 {X : sx_T} {K : sx_K} {cc : ByteArray} {nL : Nat} {ret : Option FieldType} {rm : Room} {l : Launch} {pc pc2 : Nat} {lv : List (Nat × Value)} {st : List Value} {σ : sx_M} {τ : sx_L}  {Q : sx_M → sx_L → Prop} (hX : sx_C X K cc nL "SensorTreeModel" ret rm l) (hK : kx_F K) (h : wp_Mo_tellPost  σ τ Q)  (hR : rm_Mo_tellPost.frames + 1 ≤ rm.frames ∧ 8 + (1 + 11) + rm_Mo_tellPost.locals ≤ rm.locals) (hst : (st.map fun v => v.category).sum ≤ 8) (hd : decode cc pc = .ok (.invokevirtual 193, 3)) (hpc : pc + 3 = pc2) (kk : ∀ (σ2 : sx_M) (τ2 : sx_L), Q σ2 τ2 → sx_G X K nL pc2 lv (st) (sx_H K σ2 τ2)) : sx_G X K nL pc lv (.ref (K.2.2.1 50 0 0) :: st) (sx_H K σ τ) :=
  sx_callVv (Q := Q) (As := []) hX (c_Mo_tellPost hK  σ τ Q  h) (kr_50 hK) rfl rfl lk_421 ls_55 hy_Mo_tellPost lk_419 lk_364 lk_420 ⟨rfl, rfl⟩ hR hst rfl hd hpc kk
def y_Mo_postTold : MethodName := ⟨"SensorTreeModel", "postTold", "()I"⟩
theorem hy_Mo_postTold : y_Mo_postTold.cls ≠ "java/lang/invoke/MethodHandle" ∧ y_Mo_postTold.cls ≠ "java/lang/invoke/VarHandle" ∧ (parseMethodDescriptor y_Mo_postTold.desc).map (fun d => d.parameters.length) = some 0 := by decide +kernel
theorem d_Mo_postTold_0 : decode prog_13_method_26_code 0 = .ok (.aload_n 0, 1) := by decide +kernel
theorem d_Mo_postTold_1 : decode prog_13_method_26_code 1 = .ok (.iconst 1, 1) := by decide +kernel
theorem d_Mo_postTold_2 : decode prog_13_method_26_code 2 = .ok (.invokevirtual 161, 3) := by decide +kernel
theorem d_Mo_postTold_5 : decode prog_13_method_26_code 5 = .ok (.ifCond .ne 10, 3) := by decide +kernel
theorem d_Mo_postTold_8 : decode prog_13_method_26_code 8 = .ok (.aload_n 0, 1) := by decide +kernel
theorem d_Mo_postTold_9 : decode prog_13_method_26_code 9 = .ok (.iconst 1, 1) := by decide +kernel
theorem d_Mo_postTold_10 : decode prog_13_method_26_code 10 = .ok (.invokevirtual 158, 3) := by decide +kernel
theorem d_Mo_postTold_13 : decode prog_13_method_26_code 13 = .ok (.iconst (-1), 1) := by decide +kernel
theorem d_Mo_postTold_14 : decode prog_13_method_26_code 14 = .ok (.ireturn, 1) := by decide +kernel
theorem d_Mo_postTold_15 : decode prog_13_method_26_code 15 = .ok (.aload_n 0, 1) := by decide +kernel
theorem d_Mo_postTold_16 : decode prog_13_method_26_code 16 = .ok (.aload_n 0, 1) := by decide +kernel
theorem d_Mo_postTold_17 : decode prog_13_method_26_code 17 = .ok (.getfield 30, 3) := by decide +kernel
theorem d_Mo_postTold_20 : decode prog_13_method_26_code 20 = .ok (.aload_n 0, 1) := by decide +kernel
theorem d_Mo_postTold_21 : decode prog_13_method_26_code 21 = .ok (.getfield 146, 3) := by decide +kernel
theorem d_Mo_postTold_24 : decode prog_13_method_26_code 24 = .ok (.laload, 1) := by decide +kernel
theorem d_Mo_postTold_25 : decode prog_13_method_26_code 25 = .ok (.invokevirtual 186, 3) := by decide +kernel
theorem d_Mo_postTold_28 : decode prog_13_method_26_code 28 = .ok (.istore_n 1, 1) := by decide +kernel
theorem d_Mo_postTold_29 : decode prog_13_method_26_code 29 = .ok (.iload_n 1, 1) := by decide +kernel
theorem d_Mo_postTold_30 : decode prog_13_method_26_code 30 = .ok (.ifCond .ge 12, 3) := by decide +kernel
theorem d_Mo_postTold_33 : decode prog_13_method_26_code 33 = .ok (.aload_n 0, 1) := by decide +kernel
theorem d_Mo_postTold_34 : decode prog_13_method_26_code 34 = .ok (.iconst 4, 1) := by decide +kernel
theorem d_Mo_postTold_35 : decode prog_13_method_26_code 35 = .ok (.aload_n 0, 1) := by decide +kernel
theorem d_Mo_postTold_36 : decode prog_13_method_26_code 36 = .ok (.getfield 146, 3) := by decide +kernel
theorem d_Mo_postTold_39 : decode prog_13_method_26_code 39 = .ok (.invokevirtual 182, 3) := by decide +kernel
theorem d_Mo_postTold_42 : decode prog_13_method_26_code 42 = .ok (.aload_n 0, 1) := by decide +kernel
theorem d_Mo_postTold_43 : decode prog_13_method_26_code 43 = .ok (.invokevirtual 164, 3) := by decide +kernel
theorem d_Mo_postTold_46 : decode prog_13_method_26_code 46 = .ok (.iload_n 1, 1) := by decide +kernel
theorem d_Mo_postTold_47 : decode prog_13_method_26_code 47 = .ok (.ireturn, 1) := by decide +kernel
def wp_Mo_postTold_b42   (Q : Int32 → sx_M → sx_L → Prop) (v1 : Int32) (σ : sx_M) (τ : sx_L) : Prop := wp_Mo_goesOn σ τ (fun σ1 τ1 => Q v1 σ1 τ1)
def wp_Mo_postTold  (σ : sx_M) (τ : sx_L) (Q : Int32 → sx_M → sx_L → Prop) : Prop := wp_Mo_is (1 : Int32) σ τ (fun r2 σ2 τ2 => if r2 = 0 then (wp_Mo_fail (1 : Int32) σ2 τ2 (fun σ8 τ8 => Q (-1) σ8 τ8)) else (vp_in (σ2 50 0 0 11) 403 ∧ (wp_Mo_named (τ2 56 (σ2 50 0 0 11).toNatClampNeg) σ2 τ2 (fun r5 σ5 τ5 => if 0 ≤ r5 then (wp_Mo_postTold_b42 Q r5 σ5 τ5) else (wp_Mo_wrong (4 : Int32) (σ5 50 0 0 11) σ5 τ5 (fun σ7 τ7 => wp_Mo_postTold_b42 Q r5 σ7 τ7))))))
abbrev rm_Mo_postTold : Room := { frames := 2, cells := 0, slots := 0, locals := 41 }
set_option maxRecDepth 100000 in
set_option maxHeartbeats 4000000 in
theorem g_Mo_postTold_b42 {l : Launch} {K : sx_K} {X : sx_T}   {Q : Int32 → sx_M → sx_L → Prop} (hX : sx_C X K prog_13_method_26_code 2 "SensorTreeModel" (some .int) rm_Mo_postTold l) (hK : kx_F K) (hE : sx_E X K (sx_Qi K Q))  (v1 : Int32) (σ : sx_M) (τ : sx_L)  (h : wp_Mo_postTold_b42 Q  v1 σ τ) : sx_G X K 2 42 [(0, .ref (K.2.2.1 50 0 0)), (1, .int v1)] [] (sx_H K σ τ) := by
  unfold wp_Mo_postTold_b42 at h
  refine sx_aload_n (pc2 := 43) hX 0 d_Mo_postTold_42 rfl rfl rfl ?_
  refine cl_Mo_164 (pc2 := 46) hX hK h  ⟨Nat.le_of_ble_eq_true rfl, Nat.le_of_ble_eq_true rfl⟩ (Nat.le_of_ble_eq_true rfl) d_Mo_postTold_43 rfl (fun σ1 τ1 h => ?_)
  refine sx_iload_n (pc2 := 47) hX 1 d_Mo_postTold_46 rfl rfl rfl ?_
  exact sx_iret hX hE h d_Mo_postTold_47
set_option maxRecDepth 100000 in
set_option maxHeartbeats 4000000 in
theorem c_Mo_postTold {l : Launch} {K : sx_K} (hK : kx_F K)  (σ : sx_M) (τ : sx_L) (Q : Int32 → sx_M → sx_L → Prop)  (h : wp_Mo_postTold σ τ Q) : Met l y_Mo_postTold (sx_wd y_Mo_postTold prog_13_method_26_code 2 (some .int)) rm_Mo_postTold (sx_Pc K [.ref (K.2.2.1 50 0 0)] σ τ) (sx_Qi K Q) 0 0 (sx_A K) := by
  refine sx_met (by decide) (Nat.le_of_ble_eq_true rfl) (fun X hX hE => ?_)
  replace hX : sx_C X K prog_13_method_26_code 2 "SensorTreeModel" (some .int) rm_Mo_postTold l := hX
  show sx_G X K 2 0 [(0, .ref (K.2.2.1 50 0 0))] [] (sx_H K σ τ)
  unfold wp_Mo_postTold at h
  refine sx_aload_n (pc2 := 1) hX 0 d_Mo_postTold_0 rfl rfl rfl ?_
  refine sx_iconst (v := 1) (pc2 := 2) hX d_Mo_postTold_1 (by decide) rfl ?_
  refine cl_Mo_161 (pc2 := 5) hX hK h  ⟨Nat.le_of_ble_eq_true rfl, Nat.le_of_ble_eq_true rfl⟩ (Nat.le_of_ble_eq_true rfl) d_Mo_postTold_2 rfl (fun r2 σ2 τ2 h => ?_)
  refine sx_if_ne (tgt := 15) (pc2 := 8) hX d_Mo_postTold_5 (by decide) rfl (fun hc3 => ?_) (fun hc3 => ?_)
  · replace h := sx_f h hc3
    refine sx_aload_n (pc2 := 16) hX 0 d_Mo_postTold_15 rfl rfl rfl ?_
    refine sx_aload_n (pc2 := 17) hX 0 d_Mo_postTold_16 rfl rfl rfl ?_
    refine fg_Mo_30 (pc2 := 20) hX (kr_50 hK) d_Mo_postTold_17 rfl ?_
    refine sx_aload_n (pc2 := 21) hX 0 d_Mo_postTold_20 rfl rfl rfl ?_
    refine fg_Mo_146 (pc2 := 24) hX (kr_50 hK) d_Mo_postTold_21 rfl ?_
    obtain ⟨hc4, h⟩ := h
    refine sx_lald (pc2 := 25) hX (kr_56 hK) rfl hc4 d_Mo_postTold_24 rfl ?_
    refine cl_Mo_186 (pc2 := 28) hX hK h  ⟨Nat.le_of_ble_eq_true rfl, Nat.le_of_ble_eq_true rfl⟩ (Nat.le_of_ble_eq_true rfl) d_Mo_postTold_25 rfl (fun r5 σ5 τ5 h => ?_)
    refine sx_istore_n (pc2 := 29) hX _ [(0, .ref (K.2.2.1 50 0 0)), (1, .int r5)] [1, 0] d_Mo_postTold_28 rfl (by decide) rfl rfl rfl ?_
    refine sx_iload_n (pc2 := 30) hX 1 d_Mo_postTold_29 rfl rfl rfl ?_
    refine sx_if_ge (tgt := 42) (pc2 := 33) hX d_Mo_postTold_30 (by decide) rfl (fun hc6 => ?_) (fun hc6 => ?_)
    · replace h := sx_t h hc6
      exact g_Mo_postTold_b42 hX hK hE   r5 _ _ h
    · replace h := sx_f h hc6
      refine sx_aload_n (pc2 := 34) hX 0 d_Mo_postTold_33 rfl rfl rfl ?_
      refine sx_iconst (v := 4) (pc2 := 35) hX d_Mo_postTold_34 (by decide) rfl ?_
      refine sx_aload_n (pc2 := 36) hX 0 d_Mo_postTold_35 rfl rfl rfl ?_
      refine fg_Mo_146 (pc2 := 39) hX (kr_50 hK) d_Mo_postTold_36 rfl ?_
      refine cl_Mo_182 (pc2 := 42) hX hK h  ⟨Nat.le_of_ble_eq_true rfl, Nat.le_of_ble_eq_true rfl⟩ (Nat.le_of_ble_eq_true rfl) d_Mo_postTold_39 rfl (fun σ7 τ7 h => ?_)
      exact g_Mo_postTold_b42 hX hK hE   r5 _ _ h
  · replace h := sx_t h hc3
    refine sx_aload_n (pc2 := 9) hX 0 d_Mo_postTold_8 rfl rfl rfl ?_
    refine sx_iconst (v := 1) (pc2 := 10) hX d_Mo_postTold_9 (by decide) rfl ?_
    refine cl_Mo_158 (pc2 := 13) hX hK h  ⟨Nat.le_of_ble_eq_true rfl, Nat.le_of_ble_eq_true rfl⟩ (Nat.le_of_ble_eq_true rfl) d_Mo_postTold_10 rfl (fun σ8 τ8 h => ?_)
    refine sx_iconst (v := (-1)) (pc2 := 14) hX d_Mo_postTold_13 (by decide) rfl ?_
    exact sx_iret hX hE h d_Mo_postTold_14
theorem cl_Mo_212 {X : sx_T} {K : sx_K} {cc : ByteArray} {nL : Nat} {ret : Option FieldType} {rm : Room} {l : Launch} {pc pc2 : Nat} {lv : List (Nat × Value)} {st : List Value} {σ : sx_M} {τ : sx_L}  {Q : Int32 → sx_M → sx_L → Prop} (hX : sx_C X K cc nL "SensorTreeModel" ret rm l) (hK : kx_F K) (h : wp_Mo_postTold  σ τ Q)  (hR : rm_Mo_postTold.frames + 1 ≤ rm.frames ∧ 8 + (2 + 11) + rm_Mo_postTold.locals ≤ rm.locals) (hst : (st.map fun v => v.category).sum ≤ 8) (hd : decode cc pc = .ok (.invokevirtual 212, 3)) (hpc : pc + 3 = pc2) (kk : ∀ (r : Int32) (σ2 : sx_M) (τ2 : sx_L), Q r σ2 τ2 → sx_G X K nL pc2 lv (.int r :: st) (sx_H K σ2 τ2)) : sx_G X K nL pc lv (.ref (K.2.2.1 50 0 0) :: st) (sx_H K σ τ) :=
  sx_callVi (Q := Q) (As := []) hX (c_Mo_postTold hK  σ τ Q  h) (kr_50 hK) rfl rfl lk_406 ls_59 hy_Mo_postTold lk_404 lk_364 lk_405 ⟨rfl, rfl⟩ hR hst rfl hd hpc kk
def y_Mo_bounded : MethodName := ⟨"SensorTreeModel", "bounded", "(II)I"⟩
theorem hy_Mo_bounded : y_Mo_bounded.cls ≠ "java/lang/invoke/MethodHandle" ∧ y_Mo_bounded.cls ≠ "java/lang/invoke/VarHandle" ∧ (parseMethodDescriptor y_Mo_bounded.desc).map (fun d => d.parameters.length) = some 2 := by decide +kernel
theorem d_Mo_bounded_0 : decode prog_13_method_24_code 0 = .ok (.aload_n 0, 1) := by decide +kernel
theorem d_Mo_bounded_1 : decode prog_13_method_24_code 1 = .ok (.getfield 143, 3) := by decide +kernel
theorem d_Mo_bounded_4 : decode prog_13_method_24_code 4 = .ok (.ifCond .gt 11, 3) := by decide +kernel
theorem d_Mo_bounded_7 : decode prog_13_method_24_code 7 = .ok (.aload_n 0, 1) := by decide +kernel
theorem d_Mo_bounded_8 : decode prog_13_method_24_code 8 = .ok (.iconst 2, 1) := by decide +kernel
theorem d_Mo_bounded_9 : decode prog_13_method_24_code 9 = .ok (.invokevirtual 161, 3) := by decide +kernel
theorem d_Mo_bounded_12 : decode prog_13_method_24_code 12 = .ok (.ifCond .ne 10, 3) := by decide +kernel
theorem d_Mo_bounded_15 : decode prog_13_method_24_code 15 = .ok (.aload_n 0, 1) := by decide +kernel
theorem d_Mo_bounded_16 : decode prog_13_method_24_code 16 = .ok (.iconst 1, 1) := by decide +kernel
theorem d_Mo_bounded_17 : decode prog_13_method_24_code 17 = .ok (.invokevirtual 158, 3) := by decide +kernel
theorem d_Mo_bounded_20 : decode prog_13_method_24_code 20 = .ok (.iload_n 1, 1) := by decide +kernel
theorem d_Mo_bounded_21 : decode prog_13_method_24_code 21 = .ok (.ireturn, 1) := by decide +kernel
theorem d_Mo_bounded_22 : decode prog_13_method_24_code 22 = .ok (.aload_n 0, 1) := by decide +kernel
theorem d_Mo_bounded_23 : decode prog_13_method_24_code 23 = .ok (.getfield 27, 3) := by decide +kernel
theorem d_Mo_bounded_26 : decode prog_13_method_24_code 26 = .ok (.aload_n 0, 1) := by decide +kernel
theorem d_Mo_bounded_27 : decode prog_13_method_24_code 27 = .ok (.getfield 146, 3) := by decide +kernel
theorem d_Mo_bounded_30 : decode prog_13_method_24_code 30 = .ok (.iaload, 1) := by decide +kernel
theorem d_Mo_bounded_31 : decode prog_13_method_24_code 31 = .ok (.istore_n 3, 1) := by decide +kernel
theorem d_Mo_bounded_32 : decode prog_13_method_24_code 32 = .ok (.iload_n 3, 1) := by decide +kernel
theorem d_Mo_bounded_33 : decode prog_13_method_24_code 33 = .ok (.iload_n 1, 1) := by decide +kernel
theorem d_Mo_bounded_34 : decode prog_13_method_24_code 34 = .ok (.if_icmp .lt 8, 3) := by decide +kernel
theorem d_Mo_bounded_37 : decode prog_13_method_24_code 37 = .ok (.iload_n 3, 1) := by decide +kernel
theorem d_Mo_bounded_38 : decode prog_13_method_24_code 38 = .ok (.iload_n 2, 1) := by decide +kernel
theorem d_Mo_bounded_39 : decode prog_13_method_24_code 39 = .ok (.if_icmp .le 12, 3) := by decide +kernel
theorem d_Mo_bounded_42 : decode prog_13_method_24_code 42 = .ok (.aload_n 0, 1) := by decide +kernel
theorem d_Mo_bounded_43 : decode prog_13_method_24_code 43 = .ok (.iconst 5, 1) := by decide +kernel
theorem d_Mo_bounded_44 : decode prog_13_method_24_code 44 = .ok (.aload_n 0, 1) := by decide +kernel
theorem d_Mo_bounded_45 : decode prog_13_method_24_code 45 = .ok (.getfield 146, 3) := by decide +kernel
theorem d_Mo_bounded_48 : decode prog_13_method_24_code 48 = .ok (.invokevirtual 182, 3) := by decide +kernel
theorem d_Mo_bounded_51 : decode prog_13_method_24_code 51 = .ok (.aload_n 0, 1) := by decide +kernel
theorem d_Mo_bounded_52 : decode prog_13_method_24_code 52 = .ok (.invokevirtual 164, 3) := by decide +kernel
theorem d_Mo_bounded_55 : decode prog_13_method_24_code 55 = .ok (.iload_n 3, 1) := by decide +kernel
theorem d_Mo_bounded_56 : decode prog_13_method_24_code 56 = .ok (.ireturn, 1) := by decide +kernel
def wp_Mo_bounded_b51   (Q : Int32 → sx_M → sx_L → Prop) (v3 : Int32) (σ : sx_M) (τ : sx_L) : Prop := wp_Mo_goesOn σ τ (fun σ1 τ1 => Q v3 σ1 τ1)
def wp_Mo_bounded_b42   (Q : Int32 → sx_M → sx_L → Prop) (v3 : Int32) (σ : sx_M) (τ : sx_L) : Prop := wp_Mo_wrong (5 : Int32) (σ 50 0 0 11) σ τ (fun σ2 τ2 => wp_Mo_bounded_b51 Q v3 σ2 τ2)
def wp_Mo_bounded_b15   (Q : Int32 → sx_M → sx_L → Prop) (v1 : Int32) (σ : sx_M) (τ : sx_L) : Prop := wp_Mo_fail (1 : Int32) σ τ (fun σ3 τ3 => Q v1 σ3 τ3)
def wp_Mo_bounded (x1 : Int32) (x2 : Int32) (σ : sx_M) (τ : sx_L) (Q : Int32 → sx_M → sx_L → Prop) : Prop := if 0 < σ 50 0 0 12 then (wp_Mo_bounded_b15 Q x1 σ τ) else (wp_Mo_is (2 : Int32) σ τ (fun r5 σ5 τ5 => if r5 = 0 then (wp_Mo_bounded_b15 Q x1 σ5 τ5) else (vp_in (σ5 50 0 0 11) 403 ∧ (if σ5 55 0 0 (σ5 50 0 0 11).toNatClampNeg < x1 then (wp_Mo_bounded_b42 Q (σ5 55 0 0 (σ5 50 0 0 11).toNatClampNeg) σ5 τ5) else (if σ5 55 0 0 (σ5 50 0 0 11).toNatClampNeg ≤ x2 then (wp_Mo_bounded_b51 Q (σ5 55 0 0 (σ5 50 0 0 11).toNatClampNeg) σ5 τ5) else (wp_Mo_bounded_b42 Q (σ5 55 0 0 (σ5 50 0 0 11).toNatClampNeg) σ5 τ5))))))
abbrev rm_Mo_bounded : Room := { frames := 2, cells := 0, slots := 0, locals := 41 }
set_option maxRecDepth 100000 in
set_option maxHeartbeats 4000000 in
theorem g_Mo_bounded_b51 {l : Launch} {K : sx_K} {X : sx_T}   {Q : Int32 → sx_M → sx_L → Prop} (hX : sx_C X K prog_13_method_24_code 4 "SensorTreeModel" (some .int) rm_Mo_bounded l) (hK : kx_F K) (hE : sx_E X K (sx_Qi K Q))  (v3 : Int32) (σ : sx_M) (τ : sx_L)  (h : wp_Mo_bounded_b51 Q  v3 σ τ) : sx_G X K 4 51 [(0, .ref (K.2.2.1 50 0 0)), (3, .int v3)] [] (sx_H K σ τ) := by
  unfold wp_Mo_bounded_b51 at h
  refine sx_aload_n (pc2 := 52) hX 0 d_Mo_bounded_51 rfl rfl rfl ?_
  refine cl_Mo_164 (pc2 := 55) hX hK h  ⟨Nat.le_of_ble_eq_true rfl, Nat.le_of_ble_eq_true rfl⟩ (Nat.le_of_ble_eq_true rfl) d_Mo_bounded_52 rfl (fun σ1 τ1 h => ?_)
  refine sx_iload_n (pc2 := 56) hX 1 d_Mo_bounded_55 rfl rfl rfl ?_
  exact sx_iret hX hE h d_Mo_bounded_56
set_option maxRecDepth 100000 in
set_option maxHeartbeats 4000000 in
theorem g_Mo_bounded_b42 {l : Launch} {K : sx_K} {X : sx_T}   {Q : Int32 → sx_M → sx_L → Prop} (hX : sx_C X K prog_13_method_24_code 4 "SensorTreeModel" (some .int) rm_Mo_bounded l) (hK : kx_F K) (hE : sx_E X K (sx_Qi K Q))  (v3 : Int32) (σ : sx_M) (τ : sx_L)  (h : wp_Mo_bounded_b42 Q  v3 σ τ) : sx_G X K 4 42 [(0, .ref (K.2.2.1 50 0 0)), (3, .int v3)] [] (sx_H K σ τ) := by
  unfold wp_Mo_bounded_b42 at h
  refine sx_aload_n (pc2 := 43) hX 0 d_Mo_bounded_42 rfl rfl rfl ?_
  refine sx_iconst (v := 5) (pc2 := 44) hX d_Mo_bounded_43 (by decide) rfl ?_
  refine sx_aload_n (pc2 := 45) hX 0 d_Mo_bounded_44 rfl rfl rfl ?_
  refine fg_Mo_146 (pc2 := 48) hX (kr_50 hK) d_Mo_bounded_45 rfl ?_
  refine cl_Mo_182 (pc2 := 51) hX hK h  ⟨Nat.le_of_ble_eq_true rfl, Nat.le_of_ble_eq_true rfl⟩ (Nat.le_of_ble_eq_true rfl) d_Mo_bounded_48 rfl (fun σ2 τ2 h => ?_)
  exact g_Mo_bounded_b51 hX hK hE   v3 _ _ h
set_option maxRecDepth 100000 in
set_option maxHeartbeats 4000000 in
theorem g_Mo_bounded_b15 {l : Launch} {K : sx_K} {X : sx_T}   {Q : Int32 → sx_M → sx_L → Prop} (hX : sx_C X K prog_13_method_24_code 4 "SensorTreeModel" (some .int) rm_Mo_bounded l) (hK : kx_F K) (hE : sx_E X K (sx_Qi K Q))  (v1 : Int32) (σ : sx_M) (τ : sx_L)  (h : wp_Mo_bounded_b15 Q  v1 σ τ) : sx_G X K 4 15 [(0, .ref (K.2.2.1 50 0 0)), (1, .int v1)] [] (sx_H K σ τ) := by
  unfold wp_Mo_bounded_b15 at h
  refine sx_aload_n (pc2 := 16) hX 0 d_Mo_bounded_15 rfl rfl rfl ?_
  refine sx_iconst (v := 1) (pc2 := 17) hX d_Mo_bounded_16 (by decide) rfl ?_
  refine cl_Mo_158 (pc2 := 20) hX hK h  ⟨Nat.le_of_ble_eq_true rfl, Nat.le_of_ble_eq_true rfl⟩ (Nat.le_of_ble_eq_true rfl) d_Mo_bounded_17 rfl (fun σ3 τ3 h => ?_)
  refine sx_iload_n (pc2 := 21) hX 1 d_Mo_bounded_20 rfl rfl rfl ?_
  exact sx_iret hX hE h d_Mo_bounded_21
set_option maxRecDepth 100000 in
set_option maxHeartbeats 4000000 in
theorem c_Mo_bounded {l : Launch} {K : sx_K} (hK : kx_F K) (x1 : Int32) (x2 : Int32) (σ : sx_M) (τ : sx_L) (Q : Int32 → sx_M → sx_L → Prop)  (h : wp_Mo_bounded x1 x2 σ τ Q) : Met l y_Mo_bounded (sx_wd y_Mo_bounded prog_13_method_24_code 4 (some .int)) rm_Mo_bounded (sx_Pc K [.ref (K.2.2.1 50 0 0), .int x1, .int x2] σ τ) (sx_Qi K Q) 0 0 (sx_A K) := by
  refine sx_met (by decide) (Nat.le_of_ble_eq_true rfl) (fun X hX hE => ?_)
  replace hX : sx_C X K prog_13_method_24_code 4 "SensorTreeModel" (some .int) rm_Mo_bounded l := hX
  show sx_G X K 4 0 [(0, .ref (K.2.2.1 50 0 0)), (1, .int x1), (2, .int x2)] [] (sx_H K σ τ)
  unfold wp_Mo_bounded at h
  refine sx_aload_n (pc2 := 1) hX 0 d_Mo_bounded_0 rfl rfl rfl ?_
  refine fg_Mo_143 (pc2 := 4) hX (kr_50 hK) d_Mo_bounded_1 rfl ?_
  refine sx_if_gt (tgt := 15) (pc2 := 7) hX d_Mo_bounded_4 (by decide) rfl (fun hc4 => ?_) (fun hc4 => ?_)
  · replace h := sx_t h hc4
    refine sx_sub [(0, .ref (K.2.2.1 50 0 0)), (1, .int x1)] [0, 1] rfl ?_
    exact g_Mo_bounded_b15 hX hK hE   x1 _ _ h
  · replace h := sx_f h hc4
    refine sx_aload_n (pc2 := 8) hX 0 d_Mo_bounded_7 rfl rfl rfl ?_
    refine sx_iconst (v := 2) (pc2 := 9) hX d_Mo_bounded_8 (by decide) rfl ?_
    refine cl_Mo_161 (pc2 := 12) hX hK h  ⟨Nat.le_of_ble_eq_true rfl, Nat.le_of_ble_eq_true rfl⟩ (Nat.le_of_ble_eq_true rfl) d_Mo_bounded_9 rfl (fun r5 σ5 τ5 h => ?_)
    refine sx_if_ne (tgt := 22) (pc2 := 15) hX d_Mo_bounded_12 (by decide) rfl (fun hc6 => ?_) (fun hc6 => ?_)
    · replace h := sx_f h hc6
      refine sx_aload_n (pc2 := 23) hX 0 d_Mo_bounded_22 rfl rfl rfl ?_
      refine fg_Mo_27 (pc2 := 26) hX (kr_50 hK) d_Mo_bounded_23 rfl ?_
      refine sx_aload_n (pc2 := 27) hX 0 d_Mo_bounded_26 rfl rfl rfl ?_
      refine fg_Mo_146 (pc2 := 30) hX (kr_50 hK) d_Mo_bounded_27 rfl ?_
      obtain ⟨hc7, h⟩ := h
      refine sx_iald (pc2 := 31) hX (kr_55 hK) rfl hc7 d_Mo_bounded_30 rfl ?_
      refine sx_istore_n (pc2 := 32) hX _ [(0, .ref (K.2.2.1 50 0 0)), (1, .int x1), (2, .int x2), (3, .int (σ5 55 0 0 (σ5 50 0 0 11).toNatClampNeg))] [1, 2, 3, 0] d_Mo_bounded_31 rfl (by decide) rfl rfl rfl ?_
      refine sx_iload_n (pc2 := 33) hX 3 d_Mo_bounded_32 rfl rfl rfl ?_
      refine sx_iload_n (pc2 := 34) hX 1 d_Mo_bounded_33 rfl rfl rfl ?_
      refine sx_icmp_lt (tgt := 42) (pc2 := 37) hX d_Mo_bounded_34 (by decide) rfl (fun hc8 => ?_) (fun hc8 => ?_)
      · replace h := sx_t h hc8
        refine sx_sub [(0, .ref (K.2.2.1 50 0 0)), (3, .int (σ5 55 0 0 (σ5 50 0 0 11).toNatClampNeg))] [0, 3] rfl ?_
        exact g_Mo_bounded_b42 hX hK hE   (σ5 55 0 0 (σ5 50 0 0 11).toNatClampNeg) _ _ h
      · replace h := sx_f h hc8
        refine sx_iload_n (pc2 := 38) hX 3 d_Mo_bounded_37 rfl rfl rfl ?_
        refine sx_iload_n (pc2 := 39) hX 2 d_Mo_bounded_38 rfl rfl rfl ?_
        refine sx_icmp_le (tgt := 51) (pc2 := 42) hX d_Mo_bounded_39 (by decide) rfl (fun hc9 => ?_) (fun hc9 => ?_)
        · replace h := sx_t h hc9
          refine sx_sub [(0, .ref (K.2.2.1 50 0 0)), (3, .int (σ5 55 0 0 (σ5 50 0 0 11).toNatClampNeg))] [0, 3] rfl ?_
          exact g_Mo_bounded_b51 hX hK hE   (σ5 55 0 0 (σ5 50 0 0 11).toNatClampNeg) _ _ h
        · replace h := sx_f h hc9
          refine sx_sub [(0, .ref (K.2.2.1 50 0 0)), (3, .int (σ5 55 0 0 (σ5 50 0 0 11).toNatClampNeg))] [0, 3] rfl ?_
          exact g_Mo_bounded_b42 hX hK hE   (σ5 55 0 0 (σ5 50 0 0 11).toNatClampNeg) _ _ h
    · replace h := sx_t h hc6
      refine sx_sub [(0, .ref (K.2.2.1 50 0 0)), (1, .int x1)] [0, 1] rfl ?_
      exact g_Mo_bounded_b15 hX hK hE   x1 _ _ h
theorem cl_Mo_205 {X : sx_T} {K : sx_K} {cc : ByteArray} {nL : Nat} {ret : Option FieldType} {rm : Room} {l : Launch} {pc pc2 : Nat} {lv : List (Nat × Value)} {st : List Value} {σ : sx_M} {τ : sx_L} {x1 : Int32} {x2 : Int32} {Q : Int32 → sx_M → sx_L → Prop} (hX : sx_C X K cc nL "SensorTreeModel" ret rm l) (hK : kx_F K) (h : wp_Mo_bounded x1 x2 σ τ Q)  (hR : rm_Mo_bounded.frames + 1 ≤ rm.frames ∧ 8 + (4 + 11) + rm_Mo_bounded.locals ≤ rm.locals) (hst : (st.map fun v => v.category).sum ≤ 8) (hd : decode cc pc = .ok (.invokevirtual 205, 3)) (hpc : pc + 3 = pc2) (kk : ∀ (r : Int32) (σ2 : sx_M) (τ2 : sx_L), Q r σ2 τ2 → sx_G X K nL pc2 lv (.int r :: st) (sx_H K σ2 τ2)) : sx_G X K nL pc lv (.int x2 :: .int x1 :: .ref (K.2.2.1 50 0 0) :: st) (sx_H K σ τ) :=
  sx_callVi (Q := Q) (As := [.int x1, .int x2]) hX (c_Mo_bounded hK x1 x2 σ τ Q  h) (kr_50 hK) rfl rfl lk_403 ls_60 hy_Mo_bounded lk_401 lk_364 lk_402 ⟨rfl, rfl⟩ hR hst rfl hd hpc kk
