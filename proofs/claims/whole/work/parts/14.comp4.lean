def y_St_canSend : MethodName := ⟨"SensorTree", "canSend", "(II)Z"⟩
theorem hy_St_canSend : y_St_canSend.cls ≠ "java/lang/invoke/MethodHandle" ∧ y_St_canSend.cls ≠ "java/lang/invoke/VarHandle" ∧ (parseMethodDescriptor y_St_canSend.desc).map (fun d => d.parameters.length) = some 2 := by decide +kernel
theorem d_St_canSend_0 : decode prog_1_method_42_code 0 = .ok (.aload_n 0, 1) := by decide +kernel
theorem d_St_canSend_1 : decode prog_1_method_42_code 1 = .ok (.iload_n 1, 1) := by decide +kernel
theorem d_St_canSend_2 : decode prog_1_method_42_code 2 = .ok (.iload_n 2, 1) := by decide +kernel
theorem d_St_canSend_3 : decode prog_1_method_42_code 3 = .ok (.invokevirtual 197, 3) := by decide +kernel
theorem d_St_canSend_6 : decode prog_1_method_42_code 6 = .ok (.ifCond .eq 23, 3) := by decide +kernel
theorem d_St_canSend_9 : decode prog_1_method_42_code 9 = .ok (.aload_n 0, 1) := by decide +kernel
theorem d_St_canSend_10 : decode prog_1_method_42_code 10 = .ok (.iload_n 1, 1) := by decide +kernel
theorem d_St_canSend_11 : decode prog_1_method_42_code 11 = .ok (.invokevirtual 218, 3) := by decide +kernel
theorem d_St_canSend_14 : decode prog_1_method_42_code 14 = .ok (.ifCond .eq 15, 3) := by decide +kernel
theorem d_St_canSend_17 : decode prog_1_method_42_code 17 = .ok (.aload_n 0, 1) := by decide +kernel
theorem d_St_canSend_18 : decode prog_1_method_42_code 18 = .ok (.iload_n 2, 1) := by decide +kernel
theorem d_St_canSend_19 : decode prog_1_method_42_code 19 = .ok (.invokevirtual 218, 3) := by decide +kernel
theorem d_St_canSend_22 : decode prog_1_method_42_code 22 = .ok (.ifCond .eq 7, 3) := by decide +kernel
theorem d_St_canSend_25 : decode prog_1_method_42_code 25 = .ok (.iconst 1, 1) := by decide +kernel
theorem d_St_canSend_26 : decode prog_1_method_42_code 26 = .ok (.goto 4, 3) := by decide +kernel
theorem d_St_canSend_29 : decode prog_1_method_42_code 29 = .ok (.iconst 0, 1) := by decide +kernel
theorem d_St_canSend_30 : decode prog_1_method_42_code 30 = .ok (.ireturn, 1) := by decide +kernel
def wp_St_canSend_b30   (Q : Int32 → sx_M → Prop) (w0 : Int32) (σ : sx_M) : Prop := (w0 = 0 ∨ w0 = 1) ∧ (Q w0 σ)
def wp_St_canSend_b29   (Q : Int32 → sx_M → Prop)  (σ : sx_M) : Prop := wp_St_canSend_b30 Q 0 σ
def wp_St_canSend (x1 : Int32) (x2 : Int32) (σ : sx_M) (Q : Int32 → sx_M → Prop) : Prop := wp_St_areTwoPosts x1 x2 σ (fun r2 σ2 => if r2 = 0 then (wp_St_canSend_b29 Q σ2) else (wp_St_isOn x1 σ2 (fun r4 σ4 => if r4 = 0 then (wp_St_canSend_b29 Q σ4) else (wp_St_isOn x2 σ4 (fun r6 σ6 => if r6 = 0 then (wp_St_canSend_b29 Q σ6) else (wp_St_canSend_b30 Q 1 σ6))))))
abbrev rm_St_canSend : Room := { frames := 2, cells := 0, slots := 0, locals := 43 }
set_option maxRecDepth 100000 in
set_option maxHeartbeats 4000000 in
theorem g_St_canSend_b30 {l : Launch} {K : sx_K} {X : sx_T}   {Q : Int32 → sx_M → Prop} (hX : sx_C X K prog_1_method_42_code 3 "SensorTree" (some .boolean) rm_St_canSend l) (hK : kx_C K) (hE : sx_E X K (sx_Qi K (fun r σ _ => Q r σ)))  (w0 : Int32) (σ : sx_M) (τ : sx_L)  (h : wp_St_canSend_b30 Q  w0 σ) : sx_G X K 3 30 [] [.int w0] (sx_H K σ τ) := by
  unfold wp_St_canSend_b30 at h
  obtain ⟨hc1, h⟩ := h
  exact sx_zret hX hE hc1 h d_St_canSend_30
set_option maxRecDepth 100000 in
set_option maxHeartbeats 4000000 in
theorem g_St_canSend_b29 {l : Launch} {K : sx_K} {X : sx_T}   {Q : Int32 → sx_M → Prop} (hX : sx_C X K prog_1_method_42_code 3 "SensorTree" (some .boolean) rm_St_canSend l) (hK : kx_C K) (hE : sx_E X K (sx_Qi K (fun r σ _ => Q r σ)))   (σ : sx_M) (τ : sx_L)  (h : wp_St_canSend_b29 Q  σ) : sx_G X K 3 29 [] [] (sx_H K σ τ) := by
  unfold wp_St_canSend_b29 at h
  refine sx_iconst (v := 0) (pc2 := 30) hX d_St_canSend_29 (by decide) rfl ?_
  exact g_St_canSend_b30 hX hK hE   0 _ _ h
set_option maxRecDepth 100000 in
set_option maxHeartbeats 4000000 in
theorem c_St_canSend {l : Launch} {K : sx_K} (hK : kx_C K) (x1 : Int32) (x2 : Int32) (σ : sx_M) (τ : sx_L) (Q : Int32 → sx_M → Prop)  (h : wp_St_canSend x1 x2 σ Q) : Met l y_St_canSend (sx_wd y_St_canSend prog_1_method_42_code 3 (some .boolean)) rm_St_canSend (sx_Pc K [.ref (K.2.2.1 0 0 0), .int x1, .int x2] σ τ) (sx_Qi K (fun r σ _ => Q r σ)) 0 0 (sx_A K) := by
  refine sx_met (by decide) (Nat.le_of_ble_eq_true rfl) (fun X hX hE => ?_)
  replace hX : sx_C X K prog_1_method_42_code 3 "SensorTree" (some .boolean) rm_St_canSend l := hX
  show sx_G X K 3 0 [(0, .ref (K.2.2.1 0 0 0)), (1, .int x1), (2, .int x2)] [] (sx_H K σ τ)
  unfold wp_St_canSend at h
  refine sx_aload_n (pc2 := 1) hX 0 d_St_canSend_0 rfl rfl rfl ?_
  refine sx_iload_n (pc2 := 2) hX 1 d_St_canSend_1 rfl rfl rfl ?_
  refine sx_iload_n (pc2 := 3) hX 2 d_St_canSend_2 rfl rfl rfl ?_
  refine cl_St_197 (pc2 := 6) hX hK h  ⟨Nat.le_of_ble_eq_true rfl, Nat.le_of_ble_eq_true rfl⟩ (Nat.le_of_ble_eq_true rfl) d_St_canSend_3 rfl (fun r2 σ2 τ2 h => ?_)
  refine sx_if_eq (tgt := 29) (pc2 := 9) hX d_St_canSend_6 (by decide) rfl (fun hc3 => ?_) (fun hc3 => ?_)
  · replace h := sx_t h hc3
    refine sx_sub [] [] rfl ?_
    exact g_St_canSend_b29 hX hK hE   _ _ h
  · replace h := sx_f h hc3
    refine sx_aload_n (pc2 := 10) hX 0 d_St_canSend_9 rfl rfl rfl ?_
    refine sx_iload_n (pc2 := 11) hX 1 d_St_canSend_10 rfl rfl rfl ?_
    refine cl_St_218 (pc2 := 14) hX hK h  ⟨Nat.le_of_ble_eq_true rfl, Nat.le_of_ble_eq_true rfl⟩ (Nat.le_of_ble_eq_true rfl) d_St_canSend_11 rfl (fun r4 σ4 τ4 h => ?_)
    refine sx_if_eq (tgt := 29) (pc2 := 17) hX d_St_canSend_14 (by decide) rfl (fun hc5 => ?_) (fun hc5 => ?_)
    · replace h := sx_t h hc5
      refine sx_sub [] [] rfl ?_
      exact g_St_canSend_b29 hX hK hE   _ _ h
    · replace h := sx_f h hc5
      refine sx_aload_n (pc2 := 18) hX 0 d_St_canSend_17 rfl rfl rfl ?_
      refine sx_iload_n (pc2 := 19) hX 2 d_St_canSend_18 rfl rfl rfl ?_
      refine cl_St_218 (pc2 := 22) hX hK h  ⟨Nat.le_of_ble_eq_true rfl, Nat.le_of_ble_eq_true rfl⟩ (Nat.le_of_ble_eq_true rfl) d_St_canSend_19 rfl (fun r6 σ6 τ6 h => ?_)
      refine sx_if_eq (tgt := 29) (pc2 := 25) hX d_St_canSend_22 (by decide) rfl (fun hc7 => ?_) (fun hc7 => ?_)
      · replace h := sx_t h hc7
        refine sx_sub [] [] rfl ?_
        exact g_St_canSend_b29 hX hK hE   _ _ h
      · replace h := sx_f h hc7
        refine sx_iconst (v := 1) (pc2 := 26) hX d_St_canSend_25 (by decide) rfl ?_
        refine sx_goto (tgt := 30) hX d_St_canSend_26 (by decide) ?_
        refine sx_sub [] [] rfl ?_
        exact g_St_canSend_b30 hX hK hE   1 _ _ h
theorem cl_St_168 {X : sx_T} {K : sx_K} {cc : ByteArray} {nL : Nat} {ret : Option FieldType} {rm : Room} {l : Launch} {pc pc2 : Nat} {lv : List (Nat × Value)} {st : List Value} {σ : sx_M} {τ : sx_L} {x1 : Int32} {x2 : Int32} {Q : Int32 → sx_M → Prop} (hX : sx_C X K cc nL "SensorTree" ret rm l) (hK : kx_C K) (h : wp_St_canSend x1 x2 σ Q)  (hR : rm_St_canSend.frames + 1 ≤ rm.frames ∧ 8 + (3 + 11) + rm_St_canSend.locals ≤ rm.locals) (hst : (st.map fun v => v.category).sum ≤ 8) (hd : decode cc pc = .ok (.invokevirtual 168, 3)) (hpc : pc + 3 = pc2) (kk : ∀ (r : Int32) (σ2 : sx_M) (τ2 : sx_L), Q r σ2 → sx_G X K nL pc2 lv (.int r :: st) (sx_H K σ2 τ2)) : sx_G X K nL pc lv (.int x2 :: .int x1 :: .ref (K.2.2.1 0 0 0) :: st) (sx_H K σ τ) :=
  sx_callVi (Q := fun r σ _ => Q r σ) (As := [.int x1, .int x2]) hX (c_St_canSend hK x1 x2 σ τ Q  h) (hK 0 0 0 (by decide) (by decide)) rfl rfl lk_301 ls_29 hy_St_canSend lk_299 lk_260 lk_300 ⟨rfl, rfl⟩ hR hst rfl hd hpc kk
def y_St_send : MethodName := ⟨"SensorTree", "send", "(II)I"⟩
theorem hy_St_send : y_St_send.cls ≠ "java/lang/invoke/MethodHandle" ∧ y_St_send.cls ≠ "java/lang/invoke/VarHandle" ∧ (parseMethodDescriptor y_St_send.desc).map (fun d => d.parameters.length) = some 2 := by decide +kernel
theorem d_St_send_0 : decode prog_1_method_11_code 0 = .ok (.aload_n 0, 1) := by decide +kernel
theorem d_St_send_1 : decode prog_1_method_11_code 1 = .ok (.iload_n 1, 1) := by decide +kernel
theorem d_St_send_2 : decode prog_1_method_11_code 2 = .ok (.iload_n 2, 1) := by decide +kernel
theorem d_St_send_3 : decode prog_1_method_11_code 3 = .ok (.invokevirtual 168, 3) := by decide +kernel
theorem d_St_send_6 : decode prog_1_method_11_code 6 = .ok (.ifCond .ne 5, 3) := by decide +kernel
theorem d_St_send_9 : decode prog_1_method_11_code 9 = .ok (.iconst (-1), 1) := by decide +kernel
theorem d_St_send_10 : decode prog_1_method_11_code 10 = .ok (.ireturn, 1) := by decide +kernel
theorem d_St_send_11 : decode prog_1_method_11_code 11 = .ok (.aload_n 0, 1) := by decide +kernel
theorem d_St_send_12 : decode prog_1_method_11_code 12 = .ok (.invokevirtual 119, 3) := by decide +kernel
theorem d_St_send_15 : decode prog_1_method_11_code 15 = .ok (.aload_n 0, 1) := by decide +kernel
theorem d_St_send_16 : decode prog_1_method_11_code 16 = .ok (.getfield 64, 3) := by decide +kernel
theorem d_St_send_19 : decode prog_1_method_11_code 19 = .ok (.iload_n 1, 1) := by decide +kernel
theorem d_St_send_20 : decode prog_1_method_11_code 20 = .ok (.iload_n 2, 1) := by decide +kernel
theorem d_St_send_21 : decode prog_1_method_11_code 21 = .ok (.invokevirtual 172, 3) := by decide +kernel
theorem d_St_send_24 : decode prog_1_method_11_code 24 = .ok (.iconst 0, 1) := by decide +kernel
theorem d_St_send_25 : decode prog_1_method_11_code 25 = .ok (.istore_n 3, 1) := by decide +kernel
theorem d_St_send_26 : decode prog_1_method_11_code 26 = .ok (.iload_n 3, 1) := by decide +kernel
theorem d_St_send_27 : decode prog_1_method_11_code 27 = .ok (.aload_n 0, 1) := by decide +kernel
theorem d_St_send_28 : decode prog_1_method_11_code 28 = .ok (.getfield 64, 3) := by decide +kernel
theorem d_St_send_31 : decode prog_1_method_11_code 31 = .ok (.getfield 176, 3) := by decide +kernel
theorem d_St_send_34 : decode prog_1_method_11_code 34 = .ok (.if_icmp .ge 25, 3) := by decide +kernel
theorem d_St_send_37 : decode prog_1_method_11_code 37 = .ok (.aload_n 0, 1) := by decide +kernel
theorem d_St_send_38 : decode prog_1_method_11_code 38 = .ok (.getfield 47, 3) := by decide +kernel
theorem d_St_send_41 : decode prog_1_method_11_code 41 = .ok (.aload_n 0, 1) := by decide +kernel
theorem d_St_send_42 : decode prog_1_method_11_code 42 = .ok (.getfield 64, 3) := by decide +kernel
theorem d_St_send_45 : decode prog_1_method_11_code 45 = .ok (.getfield 179, 3) := by decide +kernel
theorem d_St_send_48 : decode prog_1_method_11_code 48 = .ok (.iload_n 3, 1) := by decide +kernel
theorem d_St_send_49 : decode prog_1_method_11_code 49 = .ok (.iaload, 1) := by decide +kernel
theorem d_St_send_50 : decode prog_1_method_11_code 50 = .ok (.invokevirtual 165, 3) := by decide +kernel
theorem d_St_send_53 : decode prog_1_method_11_code 53 = .ok (.iinc 3 1, 3) := by decide +kernel
theorem d_St_send_56 : decode prog_1_method_11_code 56 = .ok (.goto (-30), 3) := by decide +kernel
theorem d_St_send_59 : decode prog_1_method_11_code 59 = .ok (.aload_n 0, 1) := by decide +kernel
theorem d_St_send_60 : decode prog_1_method_11_code 60 = .ok (.getfield 64, 3) := by decide +kernel
theorem d_St_send_63 : decode prog_1_method_11_code 63 = .ok (.getfield 182, 3) := by decide +kernel
theorem d_St_send_66 : decode prog_1_method_11_code 66 = .ok (.iconst 5, 1) := by decide +kernel
theorem d_St_send_67 : decode prog_1_method_11_code 67 = .ok (.if_icmp .ne 25, 3) := by decide +kernel
theorem d_St_send_70 : decode prog_1_method_11_code 70 = .ok (.aload_n 0, 1) := by decide +kernel
theorem d_St_send_71 : decode prog_1_method_11_code 71 = .ok (.getfield 35, 3) := by decide +kernel
theorem d_St_send_74 : decode prog_1_method_11_code 74 = .ok (.getfield 147, 3) := by decide +kernel
theorem d_St_send_77 : decode prog_1_method_11_code 77 = .ok (.aload_n 0, 1) := by decide +kernel
theorem d_St_send_78 : decode prog_1_method_11_code 78 = .ok (.getfield 64, 3) := by decide +kernel
theorem d_St_send_81 : decode prog_1_method_11_code 81 = .ok (.getfield 185, 3) := by decide +kernel
theorem d_St_send_84 : decode prog_1_method_11_code 84 = .ok (.aaload, 1) := by decide +kernel
theorem d_St_send_85 : decode prog_1_method_11_code 85 = .ok (.getfield 188, 3) := by decide +kernel
theorem d_St_send_88 : decode prog_1_method_11_code 88 = .ok (.iload_n 2, 1) := by decide +kernel
theorem d_St_send_89 : decode prog_1_method_11_code 89 = .ok (.bipush (-2), 2) := by decide +kernel
theorem d_St_send_91 : decode prog_1_method_11_code 91 = .ok (.iastore, 1) := by decide +kernel
theorem d_St_send_92 : decode prog_1_method_11_code 92 = .ok (.aload_n 0, 1) := by decide +kernel
theorem d_St_send_93 : decode prog_1_method_11_code 93 = .ok (.getfield 64, 3) := by decide +kernel
theorem d_St_send_96 : decode prog_1_method_11_code 96 = .ok (.getfield 182, 3) := by decide +kernel
theorem d_St_send_99 : decode prog_1_method_11_code 99 = .ok (.ireturn, 1) := by decide +kernel
def wp_St_send_b92   (Q : Int32 → sx_M → Prop)  (σ : sx_M) : Prop := Q (σ 34 0 0 5) σ
def wp_St_send_b26   (Q : Int32 → sx_M → Prop) : Nat → Int32 → Int32 → sx_M → Prop
  | 0, _, _, _ => False
  | f + 1, v2, v3, σ => if σ 34 0 0 4 ≤ v3 then (if σ 34 0 0 5 = 5 then (vp_in (σ 34 0 0 6) 7 ∧ (vp_in v2 7 ∧ (∀ σ5 : sx_M, σ5 = sx_u σ 29 0 ((σ 34 0 0 6).toNatClampNeg) v2.toNatClampNeg (-2) → (wp_St_send_b92 Q σ5)))) else (wp_St_send_b92 Q σ)) else (vp_in v3 2 ∧ (wp_En_beginAnew 0 (σ 36 0 0 v3.toNatClampNeg) σ (fun σ7 => wp_St_send_b26 Q f v2 (v3 + 1) σ7)))
def wp_St_send (x1 : Int32) (x2 : Int32) (σ : sx_M) (Q : Int32 → sx_M → Prop) : Prop := wp_St_canSend x1 x2 σ (fun r8 σ8 => if r8 = 0 then (Q (-1) σ8) else (wp_St_remember σ8 (fun σ10 => wp_Jo_go x1 x2 σ10 (fun σ11 => ∃ f26, wp_St_send_b26 Q f26 x2 0 σ11))))
abbrev rm_St_send : Room := { frames := 4, cells := 0, slots := 0, locals := 81 }
set_option maxRecDepth 100000 in
set_option maxHeartbeats 4000000 in
theorem g_St_send_b92 {l : Launch} {K : sx_K} {X : sx_T}   {Q : Int32 → sx_M → Prop} (hX : sx_C X K prog_1_method_11_code 4 "SensorTree" (some .int) rm_St_send l) (hK : kx_C K) (hE : sx_E X K (sx_Qi K (fun r σ _ => Q r σ)))   (σ : sx_M) (τ : sx_L)  (h : wp_St_send_b92 Q  σ) : sx_G X K 4 92 [(0, .ref (K.2.2.1 0 0 0))] [] (sx_H K σ τ) := by
  unfold wp_St_send_b92 at h
  refine sx_aload_n (pc2 := 93) hX 0 d_St_send_92 rfl rfl rfl ?_
  refine fg_St_64 (pc2 := 96) hX (hK 0 0 0 (by decide) (by decide)) d_St_send_93 rfl ?_
  refine fg_St_182 (pc2 := 99) hX (hK 34 0 0 (by decide) (by decide)) d_St_send_96 rfl ?_
  exact sx_iret hX hE h d_St_send_99
set_option maxRecDepth 100000 in
set_option maxHeartbeats 4000000 in
theorem g_St_send_b26 {l : Launch} {K : sx_K} {X : sx_T}   {Q : Int32 → sx_M → Prop} (hX : sx_C X K prog_1_method_11_code 4 "SensorTree" (some .int) rm_St_send l) (hK : kx_C K) (hE : sx_E X K (sx_Qi K (fun r σ _ => Q r σ)))  : ∀ (f : Nat) (v2 : Int32) (v3 : Int32) (σ : sx_M) (τ : sx_L) , wp_St_send_b26 Q f v2 v3 σ → sx_G X K 4 26 [(0, .ref (K.2.2.1 0 0 0)), (2, .int v2), (3, .int v3)] [] (sx_H K σ τ) := by
  intro f
  induction f with
  | zero => intro v2 v3 σ τ h; exact (show False from h).elim
  | succ f ih =>
    intro v2 v3 σ τ h
    rw [wp_St_send_b26] at h
    refine sx_iload_n (pc2 := 27) hX 2 d_St_send_26 rfl rfl rfl ?_
    refine sx_aload_n (pc2 := 28) hX 0 d_St_send_27 rfl rfl rfl ?_
    refine fg_St_64 (pc2 := 31) hX (hK 0 0 0 (by decide) (by decide)) d_St_send_28 rfl ?_
    refine fg_St_176 (pc2 := 34) hX (hK 34 0 0 (by decide) (by decide)) d_St_send_31 rfl ?_
    refine sx_icmp_ge (tgt := 59) (pc2 := 37) hX d_St_send_34 (by decide) rfl (fun hc1 => ?_) (fun hc1 => ?_)
    · replace h := sx_t h hc1
      refine sx_aload_n (pc2 := 60) hX 0 d_St_send_59 rfl rfl rfl ?_
      refine fg_St_64 (pc2 := 63) hX (hK 0 0 0 (by decide) (by decide)) d_St_send_60 rfl ?_
      refine fg_St_182 (pc2 := 66) hX (hK 34 0 0 (by decide) (by decide)) d_St_send_63 rfl ?_
      refine sx_iconst (v := 5) (pc2 := 67) hX d_St_send_66 (by decide) rfl ?_
      refine sx_icmp_ne (tgt := 92) (pc2 := 70) hX d_St_send_67 (by decide) rfl (fun hc2 => ?_) (fun hc2 => ?_)
      · replace h := sx_f h hc2
        refine sx_sub [(0, .ref (K.2.2.1 0 0 0))] [0] rfl ?_
        exact g_St_send_b92 hX hK hE   _ _ h
      · replace h := sx_t h hc2
        refine sx_aload_n (pc2 := 71) hX 0 d_St_send_70 rfl rfl rfl ?_
        refine fg_St_35 (pc2 := 74) hX (hK 0 0 0 (by decide) (by decide)) d_St_send_71 rfl ?_
        refine fg_St_147 (pc2 := 77) hX (hK 16 0 0 (by decide) (by decide)) d_St_send_74 rfl ?_
        refine sx_aload_n (pc2 := 78) hX 0 d_St_send_77 rfl rfl rfl ?_
        refine fg_St_64 (pc2 := 81) hX (hK 0 0 0 (by decide) (by decide)) d_St_send_78 rfl ?_
        refine fg_St_185 (pc2 := 84) hX (hK 34 0 0 (by decide) (by decide)) d_St_send_81 rfl ?_
        obtain ⟨hc3, h⟩ := h
        refine sx_aald (a := K.2.2.1 27 0 ((σ 34 0 0 6).toNatClampNeg)) (pc2 := 85) hX (hK 17 0 0 (by decide) (by decide)) 4 rfl rfl rfl hc3 d_St_send_84 rfl ?_
        refine fg_St_188 (pc2 := 88) hX (hK 27 0 ((σ 34 0 0 6).toNatClampNeg) (by decide) (sx_lt hc3)) d_St_send_85 rfl ?_
        refine sx_iload_n (pc2 := 89) hX 1 d_St_send_88 rfl rfl rfl ?_
        refine sx_bipush (v := (-2)) (pc2 := 91) hX d_St_send_89 (by decide) rfl ?_
        obtain ⟨hc4, h⟩ := h
        refine sx_iast (pc2 := 92) hX (hK 29 0 ((σ 34 0 0 6).toNatClampNeg) (by decide) (sx_lt hc3)) (fun _ => rfl) hc4 d_St_send_91 rfl ?_
        refine sx_nm (fun σ5 e5 => ?_)
        replace h := h σ5 e5
        refine sx_sub [(0, .ref (K.2.2.1 0 0 0))] [0] rfl ?_
        exact g_St_send_b92 hX hK hE   _ _ h
    · replace h := sx_f h hc1
      refine sx_aload_n (pc2 := 38) hX 0 d_St_send_37 rfl rfl rfl ?_
      refine fg_St_47 (pc2 := 41) hX (hK 0 0 0 (by decide) (by decide)) d_St_send_38 rfl ?_
      refine sx_aload_n (pc2 := 42) hX 0 d_St_send_41 rfl rfl rfl ?_
      refine fg_St_64 (pc2 := 45) hX (hK 0 0 0 (by decide) (by decide)) d_St_send_42 rfl ?_
      refine fg_St_179 (pc2 := 48) hX (hK 34 0 0 (by decide) (by decide)) d_St_send_45 rfl ?_
      refine sx_iload_n (pc2 := 49) hX 2 d_St_send_48 rfl rfl rfl ?_
      obtain ⟨hc6, h⟩ := h
      refine sx_iald (pc2 := 50) hX (hK 36 0 0 (by decide) (by decide)) rfl hc6 d_St_send_49 rfl ?_
      refine cl_St_165 (pc2 := 53) hX hK h (by decide) ⟨Nat.le_of_ble_eq_true rfl, Nat.le_of_ble_eq_true rfl⟩ (Nat.le_of_ble_eq_true rfl) d_St_send_50 rfl (fun σ7 τ7 h => ?_)
      refine sx_iinc (pc2 := 56) hX 2 _ [(0, .ref (K.2.2.1 0 0 0)), (2, .int v2), (3, .int (v3 + 1))] [1, 2, 0] d_St_send_53 rfl (v3 + 1) rfl (by decide) rfl rfl rfl ?_
      refine sx_goto (tgt := 26) hX d_St_send_56 (by decide) ?_
      exact ih v2 (v3 + 1) _ _ h
set_option maxRecDepth 100000 in
set_option maxHeartbeats 4000000 in
theorem c_St_send {l : Launch} {K : sx_K} (hK : kx_C K) (x1 : Int32) (x2 : Int32) (σ : sx_M) (τ : sx_L) (Q : Int32 → sx_M → Prop)  (h : wp_St_send x1 x2 σ Q) : Met l y_St_send (sx_wd y_St_send prog_1_method_11_code 4 (some .int)) rm_St_send (sx_Pc K [.ref (K.2.2.1 0 0 0), .int x1, .int x2] σ τ) (sx_Qi K (fun r σ _ => Q r σ)) 0 0 (sx_A K) := by
  refine sx_met (by decide) (Nat.le_of_ble_eq_true rfl) (fun X hX hE => ?_)
  replace hX : sx_C X K prog_1_method_11_code 4 "SensorTree" (some .int) rm_St_send l := hX
  show sx_G X K 4 0 [(0, .ref (K.2.2.1 0 0 0)), (1, .int x1), (2, .int x2)] [] (sx_H K σ τ)
  unfold wp_St_send at h
  refine sx_aload_n (pc2 := 1) hX 0 d_St_send_0 rfl rfl rfl ?_
  refine sx_iload_n (pc2 := 2) hX 1 d_St_send_1 rfl rfl rfl ?_
  refine sx_iload_n (pc2 := 3) hX 2 d_St_send_2 rfl rfl rfl ?_
  refine cl_St_168 (pc2 := 6) hX hK h  ⟨Nat.le_of_ble_eq_true rfl, Nat.le_of_ble_eq_true rfl⟩ (Nat.le_of_ble_eq_true rfl) d_St_send_3 rfl (fun r8 σ8 τ8 h => ?_)
  refine sx_if_ne (tgt := 11) (pc2 := 9) hX d_St_send_6 (by decide) rfl (fun hc9 => ?_) (fun hc9 => ?_)
  · replace h := sx_f h hc9
    refine sx_aload_n (pc2 := 12) hX 0 d_St_send_11 rfl rfl rfl ?_
    refine cl_St_119 (pc2 := 15) hX hK h  ⟨Nat.le_of_ble_eq_true rfl, Nat.le_of_ble_eq_true rfl⟩ (Nat.le_of_ble_eq_true rfl) d_St_send_12 rfl (fun σ10 τ10 h => ?_)
    refine sx_aload_n (pc2 := 16) hX 0 d_St_send_15 rfl rfl rfl ?_
    refine fg_St_64 (pc2 := 19) hX (hK 0 0 0 (by decide) (by decide)) d_St_send_16 rfl ?_
    refine sx_iload_n (pc2 := 20) hX 1 d_St_send_19 rfl rfl rfl ?_
    refine sx_iload_n (pc2 := 21) hX 2 d_St_send_20 rfl rfl rfl ?_
    refine cl_St_172 (pc2 := 24) hX hK h  ⟨Nat.le_of_ble_eq_true rfl, Nat.le_of_ble_eq_true rfl⟩ (Nat.le_of_ble_eq_true rfl) d_St_send_21 rfl (fun σ11 τ11 h => ?_)
    refine sx_iconst (v := 0) (pc2 := 25) hX d_St_send_24 (by decide) rfl ?_
    refine sx_istore_n (pc2 := 26) hX _ [(0, .ref (K.2.2.1 0 0 0)), (1, .int x1), (2, .int x2), (3, .int 0)] [1, 2, 3, 0] d_St_send_25 rfl (by decide) rfl rfl rfl ?_
    refine sx_sub [(0, .ref (K.2.2.1 0 0 0)), (2, .int x2), (3, .int 0)] [0, 2, 3] rfl ?_
    obtain ⟨f26, h⟩ := h
    exact g_St_send_b26 hX hK hE   f26 x2 0 _ _ h
  · replace h := sx_t h hc9
    refine sx_iconst (v := (-1)) (pc2 := 10) hX d_St_send_9 (by decide) rfl ?_
    exact sx_iret hX hE h d_St_send_10
def y_St_undo : MethodName := ⟨"SensorTree", "undo", "()Z"⟩
theorem hy_St_undo : y_St_undo.cls ≠ "java/lang/invoke/MethodHandle" ∧ y_St_undo.cls ≠ "java/lang/invoke/VarHandle" ∧ (parseMethodDescriptor y_St_undo.desc).map (fun d => d.parameters.length) = some 0 := by decide +kernel
theorem d_St_undo_0 : decode prog_1_method_12_code 0 = .ok (.aload_n 0, 1) := by decide +kernel
theorem d_St_undo_1 : decode prog_1_method_12_code 1 = .ok (.getfield 76, 3) := by decide +kernel
theorem d_St_undo_4 : decode prog_1_method_12_code 4 = .ok (.ifCond .ne 5, 3) := by decide +kernel
theorem d_St_undo_7 : decode prog_1_method_12_code 7 = .ok (.iconst 0, 1) := by decide +kernel
theorem d_St_undo_8 : decode prog_1_method_12_code 8 = .ok (.ireturn, 1) := by decide +kernel
theorem d_St_undo_9 : decode prog_1_method_12_code 9 = .ok (.aload_n 0, 1) := by decide +kernel
theorem d_St_undo_10 : decode prog_1_method_12_code 10 = .ok (.aload_n 0, 1) := by decide +kernel
theorem d_St_undo_11 : decode prog_1_method_12_code 11 = .ok (.getfield 72, 3) := by decide +kernel
theorem d_St_undo_14 : decode prog_1_method_12_code 14 = .ok (.ifCond .ne 8, 3) := by decide +kernel
theorem d_St_undo_17 : decode prog_1_method_12_code 17 = .ok (.bipush 19, 2) := by decide +kernel
theorem d_St_undo_19 : decode prog_1_method_12_code 19 = .ok (.goto 9, 3) := by decide +kernel
theorem d_St_undo_22 : decode prog_1_method_12_code 22 = .ok (.aload_n 0, 1) := by decide +kernel
theorem d_St_undo_23 : decode prog_1_method_12_code 23 = .ok (.getfield 72, 3) := by decide +kernel
theorem d_St_undo_26 : decode prog_1_method_12_code 26 = .ok (.iconst 1, 1) := by decide +kernel
theorem d_St_undo_27 : decode prog_1_method_12_code 27 = .ok (.isub, 1) := by decide +kernel
theorem d_St_undo_28 : decode prog_1_method_12_code 28 = .ok (.putfield 72, 3) := by decide +kernel
theorem d_St_undo_31 : decode prog_1_method_12_code 31 = .ok (.aload_n 0, 1) := by decide +kernel
theorem d_St_undo_32 : decode prog_1_method_12_code 32 = .ok (.dup, 1) := by decide +kernel
theorem d_St_undo_33 : decode prog_1_method_12_code 33 = .ok (.getfield 76, 3) := by decide +kernel
theorem d_St_undo_36 : decode prog_1_method_12_code 36 = .ok (.iconst 1, 1) := by decide +kernel
theorem d_St_undo_37 : decode prog_1_method_12_code 37 = .ok (.isub, 1) := by decide +kernel
theorem d_St_undo_38 : decode prog_1_method_12_code 38 = .ok (.putfield 76, 3) := by decide +kernel
theorem d_St_undo_41 : decode prog_1_method_12_code 41 = .ok (.aload_n 0, 1) := by decide +kernel
theorem d_St_undo_42 : decode prog_1_method_12_code 42 = .ok (.getfield 35, 3) := by decide +kernel
theorem d_St_undo_45 : decode prog_1_method_12_code 45 = .ok (.aload_n 0, 1) := by decide +kernel
theorem d_St_undo_46 : decode prog_1_method_12_code 46 = .ok (.getfield 68, 3) := by decide +kernel
theorem d_St_undo_49 : decode prog_1_method_12_code 49 = .ok (.aload_n 0, 1) := by decide +kernel
theorem d_St_undo_50 : decode prog_1_method_12_code 50 = .ok (.getfield 72, 3) := by decide +kernel
theorem d_St_undo_53 : decode prog_1_method_12_code 53 = .ok (.aaload, 1) := by decide +kernel
theorem d_St_undo_54 : decode prog_1_method_12_code 54 = .ok (.invokevirtual 191, 3) := by decide +kernel
theorem d_St_undo_57 : decode prog_1_method_12_code 57 = .ok (.iconst 1, 1) := by decide +kernel
theorem d_St_undo_58 : decode prog_1_method_12_code 58 = .ok (.ireturn, 1) := by decide +kernel
def wp_St_undo_b28   (Q : Int32 → sx_M → Prop) (w1 : Int32) (σ : sx_M) : Prop := ∀ σ1 : sx_M, σ1 = sx_u σ 0 0 0 10 w1 → (∀ σ2 : sx_M, σ2 = sx_u σ1 0 0 0 11 ((σ1 0 0 0 11) - 1) → (vp_in (σ2 0 0 0 10) 20 ∧ (wp_Ne_copyFrom 0 (2 + (σ2 0 0 0 10).toNatClampNeg) σ2 (fun σ4 => Q 1 σ4))))
def wp_St_undo  (σ : sx_M) (Q : Int32 → sx_M → Prop) : Prop := if σ 0 0 0 11 = 0 then (Q 0 σ) else (if σ 0 0 0 10 = 0 then (wp_St_undo_b28 Q 19 σ) else (wp_St_undo_b28 Q ((σ 0 0 0 10) - 1) σ))
abbrev rm_St_undo : Room := { frames := 3, cells := 0, slots := 0, locals := 61 }
set_option maxRecDepth 100000 in
set_option maxHeartbeats 4000000 in
theorem g_St_undo_b28 {l : Launch} {K : sx_K} {X : sx_T}   {Q : Int32 → sx_M → Prop} (hX : sx_C X K prog_1_method_12_code 1 "SensorTree" (some .boolean) rm_St_undo l) (hK : kx_C K) (hE : sx_E X K (sx_Qi K (fun r σ _ => Q r σ)))  (w1 : Int32) (σ : sx_M) (τ : sx_L)  (h : wp_St_undo_b28 Q  w1 σ) : sx_G X K 1 28 [(0, .ref (K.2.2.1 0 0 0))] [.int w1, .ref (K.2.2.1 0 0 0)] (sx_H K σ τ) := by
  unfold wp_St_undo_b28 at h
  refine fp_St_72 (pc2 := 31) hX (hK 0 0 0 (by decide) (by decide)) d_St_undo_28 rfl ?_
  refine sx_nm (fun σ1 e1 => ?_)
  replace h := h σ1 e1
  refine sx_aload_n (pc2 := 32) hX 0 d_St_undo_31 rfl rfl rfl ?_
  refine sx_dup (pc2 := 33) hX d_St_undo_32 rfl rfl ?_
  refine fg_St_76 (pc2 := 36) hX (hK 0 0 0 (by decide) (by decide)) d_St_undo_33 rfl ?_
  refine sx_iconst (v := 1) (pc2 := 37) hX d_St_undo_36 (by decide) rfl ?_
  refine sx_isub (pc2 := 38) hX d_St_undo_37 rfl ?_
  refine fp_St_76 (pc2 := 41) hX (hK 0 0 0 (by decide) (by decide)) d_St_undo_38 rfl ?_
  refine sx_nm (fun σ2 e2 => ?_)
  replace h := h σ2 e2
  refine sx_aload_n (pc2 := 42) hX 0 d_St_undo_41 rfl rfl rfl ?_
  refine fg_St_35 (pc2 := 45) hX (hK 0 0 0 (by decide) (by decide)) d_St_undo_42 rfl ?_
  refine sx_aload_n (pc2 := 46) hX 0 d_St_undo_45 rfl rfl rfl ?_
  refine fg_St_68 (pc2 := 49) hX (hK 0 0 0 (by decide) (by decide)) d_St_undo_46 rfl ?_
  refine sx_aload_n (pc2 := 50) hX 0 d_St_undo_49 rfl rfl rfl ?_
  refine fg_St_72 (pc2 := 53) hX (hK 0 0 0 (by decide) (by decide)) d_St_undo_50 rfl ?_
  obtain ⟨hc3, h⟩ := h
  refine sx_aald (a := K.2.2.1 16 (2 + (σ2 0 0 0 10).toNatClampNeg) 0) (pc2 := 54) hX (hK 37 0 0 (by decide) (by decide)) 5 rfl rfl rfl hc3 d_St_undo_53 rfl ?_
  refine cl_St_191 (pc2 := 57) hX hK h (by decide) (sx_past hc3) ⟨Nat.le_of_ble_eq_true rfl, Nat.le_of_ble_eq_true rfl⟩ (Nat.le_of_ble_eq_true rfl) d_St_undo_54 rfl (fun σ4 τ4 h => ?_)
  refine sx_iconst (v := 1) (pc2 := 58) hX d_St_undo_57 (by decide) rfl ?_
  exact sx_zret hX hE (by decide) h d_St_undo_58
set_option maxRecDepth 100000 in
set_option maxHeartbeats 4000000 in
theorem c_St_undo {l : Launch} {K : sx_K} (hK : kx_C K)  (σ : sx_M) (τ : sx_L) (Q : Int32 → sx_M → Prop)  (h : wp_St_undo σ Q) : Met l y_St_undo (sx_wd y_St_undo prog_1_method_12_code 1 (some .boolean)) rm_St_undo (sx_Pc K [.ref (K.2.2.1 0 0 0)] σ τ) (sx_Qi K (fun r σ _ => Q r σ)) 0 0 (sx_A K) := by
  refine sx_met (by decide) (Nat.le_of_ble_eq_true rfl) (fun X hX hE => ?_)
  replace hX : sx_C X K prog_1_method_12_code 1 "SensorTree" (some .boolean) rm_St_undo l := hX
  show sx_G X K 1 0 [(0, .ref (K.2.2.1 0 0 0))] [] (sx_H K σ τ)
  unfold wp_St_undo at h
  refine sx_aload_n (pc2 := 1) hX 0 d_St_undo_0 rfl rfl rfl ?_
  refine fg_St_76 (pc2 := 4) hX (hK 0 0 0 (by decide) (by decide)) d_St_undo_1 rfl ?_
  refine sx_if_ne (tgt := 9) (pc2 := 7) hX d_St_undo_4 (by decide) rfl (fun hc5 => ?_) (fun hc5 => ?_)
  · replace h := sx_f h hc5
    refine sx_aload_n (pc2 := 10) hX 0 d_St_undo_9 rfl rfl rfl ?_
    refine sx_aload_n (pc2 := 11) hX 0 d_St_undo_10 rfl rfl rfl ?_
    refine fg_St_72 (pc2 := 14) hX (hK 0 0 0 (by decide) (by decide)) d_St_undo_11 rfl ?_
    refine sx_if_ne (tgt := 22) (pc2 := 17) hX d_St_undo_14 (by decide) rfl (fun hc6 => ?_) (fun hc6 => ?_)
    · replace h := sx_f h hc6
      refine sx_aload_n (pc2 := 23) hX 0 d_St_undo_22 rfl rfl rfl ?_
      refine fg_St_72 (pc2 := 26) hX (hK 0 0 0 (by decide) (by decide)) d_St_undo_23 rfl ?_
      refine sx_iconst (v := 1) (pc2 := 27) hX d_St_undo_26 (by decide) rfl ?_
      refine sx_isub (pc2 := 28) hX d_St_undo_27 rfl ?_
      exact g_St_undo_b28 hX hK hE   ((σ 0 0 0 10) - 1) _ _ h
    · replace h := sx_t h hc6
      refine sx_bipush (v := 19) (pc2 := 19) hX d_St_undo_17 (by decide) rfl ?_
      refine sx_goto (tgt := 28) hX d_St_undo_19 (by decide) ?_
      exact g_St_undo_b28 hX hK hE   19 _ _ h
  · replace h := sx_t h hc5
    refine sx_iconst (v := 0) (pc2 := 8) hX d_St_undo_7 (by decide) rfl ?_
    exact sx_zret hX hE (by decide) h d_St_undo_8
def y_St_post : MethodName := ⟨"SensorTree", "post", "(II)I"⟩
theorem hy_St_post : y_St_post.cls ≠ "java/lang/invoke/MethodHandle" ∧ y_St_post.cls ≠ "java/lang/invoke/VarHandle" ∧ (parseMethodDescriptor y_St_post.desc).map (fun d => d.parameters.length) = some 2 := by decide +kernel
theorem d_St_post_0 : decode prog_1_method_13_code 0 = .ok (.aload_n 0, 1) := by decide +kernel
theorem d_St_post_1 : decode prog_1_method_13_code 1 = .ok (.getfield 26, 3) := by decide +kernel
theorem d_St_post_4 : decode prog_1_method_13_code 4 = .ok (.iload_n 1, 1) := by decide +kernel
theorem d_St_post_5 : decode prog_1_method_13_code 5 = .ok (.invokevirtual 144, 3) := by decide +kernel
theorem d_St_post_8 : decode prog_1_method_13_code 8 = .ok (.ifCond .eq 19, 3) := by decide +kernel
theorem d_St_post_11 : decode prog_1_method_13_code 11 = .ok (.aload_n 0, 1) := by decide +kernel
theorem d_St_post_12 : decode prog_1_method_13_code 12 = .ok (.getfield 35, 3) := by decide +kernel
theorem d_St_post_15 : decode prog_1_method_13_code 15 = .ok (.getfield 147, 3) := by decide +kernel
theorem d_St_post_18 : decode prog_1_method_13_code 18 = .ok (.iload_n 1, 1) := by decide +kernel
theorem d_St_post_19 : decode prog_1_method_13_code 19 = .ok (.aaload, 1) := by decide +kernel
theorem d_St_post_20 : decode prog_1_method_13_code 20 = .ok (.iload_n 2, 1) := by decide +kernel
theorem d_St_post_21 : decode prog_1_method_13_code 21 = .ok (.invokevirtual 193, 3) := by decide +kernel
theorem d_St_post_24 : decode prog_1_method_13_code 24 = .ok (.goto 4, 3) := by decide +kernel
theorem d_St_post_27 : decode prog_1_method_13_code 27 = .ok (.iconst (-1), 1) := by decide +kernel
theorem d_St_post_28 : decode prog_1_method_13_code 28 = .ok (.ireturn, 1) := by decide +kernel
def wp_St_post_b28   (Q : Int32 → sx_M → Prop) (w0 : Int32) (σ : sx_M) : Prop := Q w0 σ
def wp_St_post (x1 : Int32) (x2 : Int32) (σ : sx_M) (Q : Int32 → sx_M → Prop) : Prop := wp_Pl_isPost 0 x1 σ (fun r1 σ1 => if r1 = 0 then (wp_St_post_b28 Q (-1) σ1) else (vp_in x1 7 ∧ (wp_Po_tell 0 x1.toNatClampNeg x2 σ1 (fun r4 σ4 => wp_St_post_b28 Q r4 σ4))))
abbrev rm_St_post : Room := { frames := 1, cells := 0, slots := 0, locals := 21 }
set_option maxRecDepth 100000 in
set_option maxHeartbeats 4000000 in
theorem g_St_post_b28 {l : Launch} {K : sx_K} {X : sx_T}   {Q : Int32 → sx_M → Prop} (hX : sx_C X K prog_1_method_13_code 3 "SensorTree" (some .int) rm_St_post l) (hK : kx_C K) (hE : sx_E X K (sx_Qi K (fun r σ _ => Q r σ)))  (w0 : Int32) (σ : sx_M) (τ : sx_L)  (h : wp_St_post_b28 Q  w0 σ) : sx_G X K 3 28 [] [.int w0] (sx_H K σ τ) := by
  unfold wp_St_post_b28 at h
  exact sx_iret hX hE h d_St_post_28
set_option maxRecDepth 100000 in
set_option maxHeartbeats 4000000 in
theorem c_St_post {l : Launch} {K : sx_K} (hK : kx_C K) (x1 : Int32) (x2 : Int32) (σ : sx_M) (τ : sx_L) (Q : Int32 → sx_M → Prop)  (h : wp_St_post x1 x2 σ Q) : Met l y_St_post (sx_wd y_St_post prog_1_method_13_code 3 (some .int)) rm_St_post (sx_Pc K [.ref (K.2.2.1 0 0 0), .int x1, .int x2] σ τ) (sx_Qi K (fun r σ _ => Q r σ)) 0 0 (sx_A K) := by
  refine sx_met (by decide) (Nat.le_of_ble_eq_true rfl) (fun X hX hE => ?_)
  replace hX : sx_C X K prog_1_method_13_code 3 "SensorTree" (some .int) rm_St_post l := hX
  show sx_G X K 3 0 [(0, .ref (K.2.2.1 0 0 0)), (1, .int x1), (2, .int x2)] [] (sx_H K σ τ)
  unfold wp_St_post at h
  refine sx_aload_n (pc2 := 1) hX 0 d_St_post_0 rfl rfl rfl ?_
  refine fg_St_26 (pc2 := 4) hX (hK 0 0 0 (by decide) (by decide)) d_St_post_1 rfl ?_
  refine sx_iload_n (pc2 := 5) hX 1 d_St_post_4 rfl rfl rfl ?_
  refine cl_St_144 (pc2 := 8) hX hK h (by decide) ⟨Nat.le_of_ble_eq_true rfl, Nat.le_of_ble_eq_true rfl⟩ (Nat.le_of_ble_eq_true rfl) d_St_post_5 rfl (fun r1 σ1 τ1 h => ?_)
  refine sx_if_eq (tgt := 27) (pc2 := 11) hX d_St_post_8 (by decide) rfl (fun hc2 => ?_) (fun hc2 => ?_)
  · replace h := sx_t h hc2
    refine sx_iconst (v := (-1)) (pc2 := 28) hX d_St_post_27 (by decide) rfl ?_
    refine sx_sub [] [] rfl ?_
    exact g_St_post_b28 hX hK hE   (-1) _ _ h
  · replace h := sx_f h hc2
    refine sx_aload_n (pc2 := 12) hX 0 d_St_post_11 rfl rfl rfl ?_
    refine fg_St_35 (pc2 := 15) hX (hK 0 0 0 (by decide) (by decide)) d_St_post_12 rfl ?_
    refine fg_St_147 (pc2 := 18) hX (hK 16 0 0 (by decide) (by decide)) d_St_post_15 rfl ?_
    refine sx_iload_n (pc2 := 19) hX 1 d_St_post_18 rfl rfl rfl ?_
    obtain ⟨hc3, h⟩ := h
    refine sx_aald (a := K.2.2.1 27 0 x1.toNatClampNeg) (pc2 := 20) hX (hK 17 0 0 (by decide) (by decide)) 4 rfl rfl rfl hc3 d_St_post_19 rfl ?_
    refine sx_iload_n (pc2 := 21) hX 2 d_St_post_20 rfl rfl rfl ?_
    refine cl_St_193 (pc2 := 24) hX hK h (by decide) (sx_lt hc3) ⟨Nat.le_of_ble_eq_true rfl, Nat.le_of_ble_eq_true rfl⟩ (Nat.le_of_ble_eq_true rfl) d_St_post_21 rfl (fun r4 σ4 τ4 h => ?_)
    refine sx_goto (tgt := 28) hX d_St_post_24 (by decide) ?_
    refine sx_sub [] [] rfl ?_
    exact g_St_post_b28 hX hK hE   r4 _ _ h
def y_St_heard : MethodName := ⟨"SensorTree", "heard", "(II)I"⟩
theorem hy_St_heard : y_St_heard.cls ≠ "java/lang/invoke/MethodHandle" ∧ y_St_heard.cls ≠ "java/lang/invoke/VarHandle" ∧ (parseMethodDescriptor y_St_heard.desc).map (fun d => d.parameters.length) = some 2 := by decide +kernel
theorem d_St_heard_0 : decode prog_1_method_14_code 0 = .ok (.aload_n 0, 1) := by decide +kernel
theorem d_St_heard_1 : decode prog_1_method_14_code 1 = .ok (.iload_n 1, 1) := by decide +kernel
theorem d_St_heard_2 : decode prog_1_method_14_code 2 = .ok (.iload_n 2, 1) := by decide +kernel
theorem d_St_heard_3 : decode prog_1_method_14_code 3 = .ok (.invokevirtual 197, 3) := by decide +kernel
theorem d_St_heard_6 : decode prog_1_method_14_code 6 = .ok (.ifCond .eq 20, 3) := by decide +kernel
theorem d_St_heard_9 : decode prog_1_method_14_code 9 = .ok (.aload_n 0, 1) := by decide +kernel
theorem d_St_heard_10 : decode prog_1_method_14_code 10 = .ok (.getfield 35, 3) := by decide +kernel
theorem d_St_heard_13 : decode prog_1_method_14_code 13 = .ok (.getfield 147, 3) := by decide +kernel
theorem d_St_heard_16 : decode prog_1_method_14_code 16 = .ok (.iload_n 1, 1) := by decide +kernel
theorem d_St_heard_17 : decode prog_1_method_14_code 17 = .ok (.aaload, 1) := by decide +kernel
theorem d_St_heard_18 : decode prog_1_method_14_code 18 = .ok (.getfield 200, 3) := by decide +kernel
theorem d_St_heard_21 : decode prog_1_method_14_code 21 = .ok (.iload_n 2, 1) := by decide +kernel
theorem d_St_heard_22 : decode prog_1_method_14_code 22 = .ok (.iaload, 1) := by decide +kernel
theorem d_St_heard_23 : decode prog_1_method_14_code 23 = .ok (.goto 4, 3) := by decide +kernel
theorem d_St_heard_26 : decode prog_1_method_14_code 26 = .ok (.iconst (-1), 1) := by decide +kernel
theorem d_St_heard_27 : decode prog_1_method_14_code 27 = .ok (.ireturn, 1) := by decide +kernel
def wp_St_heard_b27   (Q : Int32 → sx_M → Prop) (w0 : Int32) (σ : sx_M) : Prop := Q w0 σ
def wp_St_heard (x1 : Int32) (x2 : Int32) (σ : sx_M) (Q : Int32 → sx_M → Prop) : Prop := wp_St_areTwoPosts x1 x2 σ (fun r1 σ1 => if r1 = 0 then (wp_St_heard_b27 Q (-1) σ1) else (vp_in x1 7 ∧ (vp_in x2 7 ∧ (wp_St_heard_b27 Q (σ1 28 0 x1.toNatClampNeg x2.toNatClampNeg) σ1))))
abbrev rm_St_heard : Room := { frames := 2, cells := 0, slots := 0, locals := 43 }
set_option maxRecDepth 100000 in
set_option maxHeartbeats 4000000 in
theorem g_St_heard_b27 {l : Launch} {K : sx_K} {X : sx_T}   {Q : Int32 → sx_M → Prop} (hX : sx_C X K prog_1_method_14_code 3 "SensorTree" (some .int) rm_St_heard l) (hK : kx_C K) (hE : sx_E X K (sx_Qi K (fun r σ _ => Q r σ)))  (w0 : Int32) (σ : sx_M) (τ : sx_L)  (h : wp_St_heard_b27 Q  w0 σ) : sx_G X K 3 27 [] [.int w0] (sx_H K σ τ) := by
  unfold wp_St_heard_b27 at h
  exact sx_iret hX hE h d_St_heard_27
set_option maxRecDepth 100000 in
set_option maxHeartbeats 4000000 in
theorem c_St_heard {l : Launch} {K : sx_K} (hK : kx_C K) (x1 : Int32) (x2 : Int32) (σ : sx_M) (τ : sx_L) (Q : Int32 → sx_M → Prop)  (h : wp_St_heard x1 x2 σ Q) : Met l y_St_heard (sx_wd y_St_heard prog_1_method_14_code 3 (some .int)) rm_St_heard (sx_Pc K [.ref (K.2.2.1 0 0 0), .int x1, .int x2] σ τ) (sx_Qi K (fun r σ _ => Q r σ)) 0 0 (sx_A K) := by
  refine sx_met (by decide) (Nat.le_of_ble_eq_true rfl) (fun X hX hE => ?_)
  replace hX : sx_C X K prog_1_method_14_code 3 "SensorTree" (some .int) rm_St_heard l := hX
  show sx_G X K 3 0 [(0, .ref (K.2.2.1 0 0 0)), (1, .int x1), (2, .int x2)] [] (sx_H K σ τ)
  unfold wp_St_heard at h
  refine sx_aload_n (pc2 := 1) hX 0 d_St_heard_0 rfl rfl rfl ?_
  refine sx_iload_n (pc2 := 2) hX 1 d_St_heard_1 rfl rfl rfl ?_
  refine sx_iload_n (pc2 := 3) hX 2 d_St_heard_2 rfl rfl rfl ?_
  refine cl_St_197 (pc2 := 6) hX hK h  ⟨Nat.le_of_ble_eq_true rfl, Nat.le_of_ble_eq_true rfl⟩ (Nat.le_of_ble_eq_true rfl) d_St_heard_3 rfl (fun r1 σ1 τ1 h => ?_)
  refine sx_if_eq (tgt := 26) (pc2 := 9) hX d_St_heard_6 (by decide) rfl (fun hc2 => ?_) (fun hc2 => ?_)
  · replace h := sx_t h hc2
    refine sx_iconst (v := (-1)) (pc2 := 27) hX d_St_heard_26 (by decide) rfl ?_
    refine sx_sub [] [] rfl ?_
    exact g_St_heard_b27 hX hK hE   (-1) _ _ h
  · replace h := sx_f h hc2
    refine sx_aload_n (pc2 := 10) hX 0 d_St_heard_9 rfl rfl rfl ?_
    refine fg_St_35 (pc2 := 13) hX (hK 0 0 0 (by decide) (by decide)) d_St_heard_10 rfl ?_
    refine fg_St_147 (pc2 := 16) hX (hK 16 0 0 (by decide) (by decide)) d_St_heard_13 rfl ?_
    refine sx_iload_n (pc2 := 17) hX 1 d_St_heard_16 rfl rfl rfl ?_
    obtain ⟨hc3, h⟩ := h
    refine sx_aald (a := K.2.2.1 27 0 x1.toNatClampNeg) (pc2 := 18) hX (hK 17 0 0 (by decide) (by decide)) 4 rfl rfl rfl hc3 d_St_heard_17 rfl ?_
    refine fg_St_200 (pc2 := 21) hX (hK 27 0 x1.toNatClampNeg (by decide) (sx_lt hc3)) d_St_heard_18 rfl ?_
    refine sx_iload_n (pc2 := 22) hX 2 d_St_heard_21 rfl rfl rfl ?_
    obtain ⟨hc4, h⟩ := h
    refine sx_iald (pc2 := 23) hX (hK 28 0 x1.toNatClampNeg (by decide) (sx_lt hc3)) rfl hc4 d_St_heard_22 rfl ?_
    refine sx_goto (tgt := 27) hX d_St_heard_23 (by decide) ?_
    refine sx_sub [] [] rfl ?_
    exact g_St_heard_b27 hX hK hE   (σ1 28 0 x1.toNatClampNeg x2.toNatClampNeg) _ _ h
def y_St_route : MethodName := ⟨"SensorTree", "route", "(III)I"⟩
theorem hy_St_route : y_St_route.cls ≠ "java/lang/invoke/MethodHandle" ∧ y_St_route.cls ≠ "java/lang/invoke/VarHandle" ∧ (parseMethodDescriptor y_St_route.desc).map (fun d => d.parameters.length) = some 3 := by decide +kernel
theorem d_St_route_0 : decode prog_1_method_15_code 0 = .ok (.aload_n 0, 1) := by decide +kernel
theorem d_St_route_1 : decode prog_1_method_15_code 1 = .ok (.iload_n 1, 1) := by decide +kernel
theorem d_St_route_2 : decode prog_1_method_15_code 2 = .ok (.iload_n 2, 1) := by decide +kernel
theorem d_St_route_3 : decode prog_1_method_15_code 3 = .ok (.invokevirtual 197, 3) := by decide +kernel
theorem d_St_route_6 : decode prog_1_method_15_code 6 = .ok (.ifCond .eq 12, 3) := by decide +kernel
theorem d_St_route_9 : decode prog_1_method_15_code 9 = .ok (.iload_n 3, 1) := by decide +kernel
theorem d_St_route_10 : decode prog_1_method_15_code 10 = .ok (.ifCond .lt 8, 3) := by decide +kernel
theorem d_St_route_13 : decode prog_1_method_15_code 13 = .ok (.iload_n 3, 1) := by decide +kernel
theorem d_St_route_14 : decode prog_1_method_15_code 14 = .ok (.iconst 1, 1) := by decide +kernel
theorem d_St_route_15 : decode prog_1_method_15_code 15 = .ok (.if_icmp .le 5, 3) := by decide +kernel
theorem d_St_route_18 : decode prog_1_method_15_code 18 = .ok (.iconst (-1), 1) := by decide +kernel
theorem d_St_route_19 : decode prog_1_method_15_code 19 = .ok (.ireturn, 1) := by decide +kernel
theorem d_St_route_20 : decode prog_1_method_15_code 20 = .ok (.aload_n 0, 1) := by decide +kernel
theorem d_St_route_21 : decode prog_1_method_15_code 21 = .ok (.getfield 35, 3) := by decide +kernel
theorem d_St_route_24 : decode prog_1_method_15_code 24 = .ok (.getfield 147, 3) := by decide +kernel
theorem d_St_route_27 : decode prog_1_method_15_code 27 = .ok (.iload_n 1, 1) := by decide +kernel
theorem d_St_route_28 : decode prog_1_method_15_code 28 = .ok (.aaload, 1) := by decide +kernel
theorem d_St_route_29 : decode prog_1_method_15_code 29 = .ok (.astore 4, 2) := by decide +kernel
theorem d_St_route_31 : decode prog_1_method_15_code 31 = .ok (.aload 4, 2) := by decide +kernel
theorem d_St_route_33 : decode prog_1_method_15_code 33 = .ok (.getfield 188, 3) := by decide +kernel
theorem d_St_route_36 : decode prog_1_method_15_code 36 = .ok (.iload_n 2, 1) := by decide +kernel
theorem d_St_route_37 : decode prog_1_method_15_code 37 = .ok (.iaload, 1) := by decide +kernel
theorem d_St_route_38 : decode prog_1_method_15_code 38 = .ok (.bipush (-2), 2) := by decide +kernel
theorem d_St_route_40 : decode prog_1_method_15_code 40 = .ok (.if_icmp .ne 6, 3) := by decide +kernel
theorem d_St_route_43 : decode prog_1_method_15_code 43 = .ok (.bipush (-2), 2) := by decide +kernel
theorem d_St_route_45 : decode prog_1_method_15_code 45 = .ok (.ireturn, 1) := by decide +kernel
theorem d_St_route_46 : decode prog_1_method_15_code 46 = .ok (.iload_n 3, 1) := by decide +kernel
theorem d_St_route_47 : decode prog_1_method_15_code 47 = .ok (.ifCond .ne 13, 3) := by decide +kernel
theorem d_St_route_50 : decode prog_1_method_15_code 50 = .ok (.aload 4, 2) := by decide +kernel
theorem d_St_route_52 : decode prog_1_method_15_code 52 = .ok (.getfield 188, 3) := by decide +kernel
theorem d_St_route_55 : decode prog_1_method_15_code 55 = .ok (.iload_n 2, 1) := by decide +kernel
theorem d_St_route_56 : decode prog_1_method_15_code 56 = .ok (.iaload, 1) := by decide +kernel
theorem d_St_route_57 : decode prog_1_method_15_code 57 = .ok (.goto 10, 3) := by decide +kernel
theorem d_St_route_60 : decode prog_1_method_15_code 60 = .ok (.aload 4, 2) := by decide +kernel
theorem d_St_route_62 : decode prog_1_method_15_code 62 = .ok (.getfield 203, 3) := by decide +kernel
theorem d_St_route_65 : decode prog_1_method_15_code 65 = .ok (.iload_n 2, 1) := by decide +kernel
theorem d_St_route_66 : decode prog_1_method_15_code 66 = .ok (.iaload, 1) := by decide +kernel
theorem d_St_route_67 : decode prog_1_method_15_code 67 = .ok (.ireturn, 1) := by decide +kernel
def wp_St_route_b67   (Q : Int32 → sx_M → Prop) (w0 : Int32) (σ : sx_M) : Prop := Q w0 σ
def wp_St_route_b18   (Q : Int32 → sx_M → Prop)  (σ : sx_M) : Prop := Q (-1) σ
def wp_St_route (x1 : Int32) (x2 : Int32) (x3 : Int32) (σ : sx_M) (Q : Int32 → sx_M → Prop) : Prop := wp_St_areTwoPosts x1 x2 σ (fun r1 σ1 => if r1 = 0 then (wp_St_route_b18 Q σ1) else (if x3 < 0 then (wp_St_route_b18 Q σ1) else (if x3 ≤ 1 then (vp_in x1 7 ∧ (vp_in x2 7 ∧ (if σ1 29 0 x1.toNatClampNeg x2.toNatClampNeg = (-2) then (Q (-2) σ1) else (if x3 = 0 then (vp_in x2 7 ∧ (wp_St_route_b67 Q (σ1 29 0 x1.toNatClampNeg x2.toNatClampNeg) σ1)) else (vp_in x2 7 ∧ (wp_St_route_b67 Q (σ1 30 0 x1.toNatClampNeg x2.toNatClampNeg) σ1)))))) else (wp_St_route_b18 Q σ1))))
abbrev rm_St_route : Room := { frames := 2, cells := 0, slots := 0, locals := 43 }
set_option maxRecDepth 100000 in
set_option maxHeartbeats 4000000 in
theorem g_St_route_b67 {l : Launch} {K : sx_K} {X : sx_T}   {Q : Int32 → sx_M → Prop} (hX : sx_C X K prog_1_method_15_code 5 "SensorTree" (some .int) rm_St_route l) (hK : kx_C K) (hE : sx_E X K (sx_Qi K (fun r σ _ => Q r σ)))  (w0 : Int32) (σ : sx_M) (τ : sx_L)  (h : wp_St_route_b67 Q  w0 σ) : sx_G X K 5 67 [] [.int w0] (sx_H K σ τ) := by
  unfold wp_St_route_b67 at h
  exact sx_iret hX hE h d_St_route_67
set_option maxRecDepth 100000 in
set_option maxHeartbeats 4000000 in
theorem g_St_route_b18 {l : Launch} {K : sx_K} {X : sx_T}   {Q : Int32 → sx_M → Prop} (hX : sx_C X K prog_1_method_15_code 5 "SensorTree" (some .int) rm_St_route l) (hK : kx_C K) (hE : sx_E X K (sx_Qi K (fun r σ _ => Q r σ)))   (σ : sx_M) (τ : sx_L)  (h : wp_St_route_b18 Q  σ) : sx_G X K 5 18 [] [] (sx_H K σ τ) := by
  unfold wp_St_route_b18 at h
  refine sx_iconst (v := (-1)) (pc2 := 19) hX d_St_route_18 (by decide) rfl ?_
  exact sx_iret hX hE h d_St_route_19
set_option maxRecDepth 100000 in
set_option maxHeartbeats 4000000 in
theorem c_St_route {l : Launch} {K : sx_K} (hK : kx_C K) (x1 : Int32) (x2 : Int32) (x3 : Int32) (σ : sx_M) (τ : sx_L) (Q : Int32 → sx_M → Prop)  (h : wp_St_route x1 x2 x3 σ Q) : Met l y_St_route (sx_wd y_St_route prog_1_method_15_code 5 (some .int)) rm_St_route (sx_Pc K [.ref (K.2.2.1 0 0 0), .int x1, .int x2, .int x3] σ τ) (sx_Qi K (fun r σ _ => Q r σ)) 0 0 (sx_A K) := by
  refine sx_met (by decide) (Nat.le_of_ble_eq_true rfl) (fun X hX hE => ?_)
  replace hX : sx_C X K prog_1_method_15_code 5 "SensorTree" (some .int) rm_St_route l := hX
  show sx_G X K 5 0 [(0, .ref (K.2.2.1 0 0 0)), (1, .int x1), (2, .int x2), (3, .int x3)] [] (sx_H K σ τ)
  unfold wp_St_route at h
  refine sx_aload_n (pc2 := 1) hX 0 d_St_route_0 rfl rfl rfl ?_
  refine sx_iload_n (pc2 := 2) hX 1 d_St_route_1 rfl rfl rfl ?_
  refine sx_iload_n (pc2 := 3) hX 2 d_St_route_2 rfl rfl rfl ?_
  refine cl_St_197 (pc2 := 6) hX hK h  ⟨Nat.le_of_ble_eq_true rfl, Nat.le_of_ble_eq_true rfl⟩ (Nat.le_of_ble_eq_true rfl) d_St_route_3 rfl (fun r1 σ1 τ1 h => ?_)
  refine sx_if_eq (tgt := 18) (pc2 := 9) hX d_St_route_6 (by decide) rfl (fun hc2 => ?_) (fun hc2 => ?_)
  · replace h := sx_t h hc2
    refine sx_sub [] [] rfl ?_
    exact g_St_route_b18 hX hK hE   _ _ h
  · replace h := sx_f h hc2
    refine sx_iload_n (pc2 := 10) hX 3 d_St_route_9 rfl rfl rfl ?_
    refine sx_if_lt (tgt := 18) (pc2 := 13) hX d_St_route_10 (by decide) rfl (fun hc3 => ?_) (fun hc3 => ?_)
    · replace h := sx_t h hc3
      refine sx_sub [] [] rfl ?_
      exact g_St_route_b18 hX hK hE   _ _ h
    · replace h := sx_f h hc3
      refine sx_iload_n (pc2 := 14) hX 3 d_St_route_13 rfl rfl rfl ?_
      refine sx_iconst (v := 1) (pc2 := 15) hX d_St_route_14 (by decide) rfl ?_
      refine sx_icmp_le (tgt := 20) (pc2 := 18) hX d_St_route_15 (by decide) rfl (fun hc4 => ?_) (fun hc4 => ?_)
      · replace h := sx_t h hc4
        refine sx_aload_n (pc2 := 21) hX 0 d_St_route_20 rfl rfl rfl ?_
        refine fg_St_35 (pc2 := 24) hX (hK 0 0 0 (by decide) (by decide)) d_St_route_21 rfl ?_
        refine fg_St_147 (pc2 := 27) hX (hK 16 0 0 (by decide) (by decide)) d_St_route_24 rfl ?_
        refine sx_iload_n (pc2 := 28) hX 1 d_St_route_27 rfl rfl rfl ?_
        obtain ⟨hc5, h⟩ := h
        refine sx_aald (a := K.2.2.1 27 0 x1.toNatClampNeg) (pc2 := 29) hX (hK 17 0 0 (by decide) (by decide)) 4 rfl rfl rfl hc5 d_St_route_28 rfl ?_
        refine sx_astore (pc2 := 31) hX _ [(0, .ref (K.2.2.1 0 0 0)), (1, .int x1), (2, .int x2), (3, .int x3), (4, .ref (K.2.2.1 27 0 x1.toNatClampNeg))] [1, 2, 3, 4, 0] d_St_route_29 (by decide) rfl rfl rfl ?_
        refine sx_aload (pc2 := 33) hX 4 d_St_route_31 rfl rfl ?_
        refine fg_St_188 (pc2 := 36) hX (hK 27 0 x1.toNatClampNeg (by decide) (sx_lt hc5)) d_St_route_33 rfl ?_
        refine sx_iload_n (pc2 := 37) hX 2 d_St_route_36 rfl rfl rfl ?_
        obtain ⟨hc6, h⟩ := h
        refine sx_iald (pc2 := 38) hX (hK 29 0 x1.toNatClampNeg (by decide) (sx_lt hc5)) rfl hc6 d_St_route_37 rfl ?_
        refine sx_bipush (v := (-2)) (pc2 := 40) hX d_St_route_38 (by decide) rfl ?_
        refine sx_icmp_ne (tgt := 46) (pc2 := 43) hX d_St_route_40 (by decide) rfl (fun hc7 => ?_) (fun hc7 => ?_)
        · replace h := sx_f h hc7
          refine sx_iload_n (pc2 := 47) hX 3 d_St_route_46 rfl rfl rfl ?_
          refine sx_if_ne (tgt := 60) (pc2 := 50) hX d_St_route_47 (by decide) rfl (fun hc8 => ?_) (fun hc8 => ?_)
          · replace h := sx_f h hc8
            refine sx_aload (pc2 := 62) hX 4 d_St_route_60 rfl rfl ?_
            refine fg_St_203 (pc2 := 65) hX (hK 27 0 x1.toNatClampNeg (by decide) (sx_lt hc5)) d_St_route_62 rfl ?_
            refine sx_iload_n (pc2 := 66) hX 2 d_St_route_65 rfl rfl rfl ?_
            obtain ⟨hc9, h⟩ := h
            refine sx_iald (pc2 := 67) hX (hK 30 0 x1.toNatClampNeg (by decide) (sx_lt hc5)) rfl hc9 d_St_route_66 rfl ?_
            refine sx_sub [] [] rfl ?_
            exact g_St_route_b67 hX hK hE   (σ1 30 0 x1.toNatClampNeg x2.toNatClampNeg) _ _ h
          · replace h := sx_t h hc8
            refine sx_aload (pc2 := 52) hX 4 d_St_route_50 rfl rfl ?_
            refine fg_St_188 (pc2 := 55) hX (hK 27 0 x1.toNatClampNeg (by decide) (sx_lt hc5)) d_St_route_52 rfl ?_
            refine sx_iload_n (pc2 := 56) hX 2 d_St_route_55 rfl rfl rfl ?_
            obtain ⟨hc10, h⟩ := h
            refine sx_iald (pc2 := 57) hX (hK 29 0 x1.toNatClampNeg (by decide) (sx_lt hc5)) rfl hc10 d_St_route_56 rfl ?_
            refine sx_goto (tgt := 67) hX d_St_route_57 (by decide) ?_
            refine sx_sub [] [] rfl ?_
            exact g_St_route_b67 hX hK hE   (σ1 29 0 x1.toNatClampNeg x2.toNatClampNeg) _ _ h
        · replace h := sx_t h hc7
          refine sx_bipush (v := (-2)) (pc2 := 45) hX d_St_route_43 (by decide) rfl ?_
          exact sx_iret hX hE h d_St_route_45
      · replace h := sx_f h hc4
        refine sx_sub [] [] rfl ?_
        exact g_St_route_b18 hX hK hE   _ _ h
def y_St_link : MethodName := ⟨"SensorTree", "link", "(II)I"⟩
theorem hy_St_link : y_St_link.cls ≠ "java/lang/invoke/MethodHandle" ∧ y_St_link.cls ≠ "java/lang/invoke/VarHandle" ∧ (parseMethodDescriptor y_St_link.desc).map (fun d => d.parameters.length) = some 2 := by decide +kernel
theorem d_St_link_0 : decode prog_1_method_16_code 0 = .ok (.aload_n 0, 1) := by decide +kernel
theorem d_St_link_1 : decode prog_1_method_16_code 1 = .ok (.getfield 26, 3) := by decide +kernel
theorem d_St_link_4 : decode prog_1_method_16_code 4 = .ok (.iload_n 1, 1) := by decide +kernel
theorem d_St_link_5 : decode prog_1_method_16_code 5 = .ok (.invokevirtual 128, 3) := by decide +kernel
theorem d_St_link_8 : decode prog_1_method_16_code 8 = .ok (.ifCond .ne 5, 3) := by decide +kernel
theorem d_St_link_11 : decode prog_1_method_16_code 11 = .ok (.iconst (-1), 1) := by decide +kernel
theorem d_St_link_12 : decode prog_1_method_16_code 12 = .ok (.ireturn, 1) := by decide +kernel
theorem d_St_link_13 : decode prog_1_method_16_code 13 = .ok (.iload_n 2, 1) := by decide +kernel
theorem d_St_link_14 : decode prog_1_method_16_code 14 = .ok (.tableswitch 83 0 4 #[34, 44, 54, 64, 74], 34) := by decide +kernel
theorem d_St_link_48 : decode prog_1_method_16_code 48 = .ok (.aload_n 0, 1) := by decide +kernel
theorem d_St_link_49 : decode prog_1_method_16_code 49 = .ok (.getfield 26, 3) := by decide +kernel
theorem d_St_link_52 : decode prog_1_method_16_code 52 = .ok (.getfield 206, 3) := by decide +kernel
theorem d_St_link_55 : decode prog_1_method_16_code 55 = .ok (.iload_n 1, 1) := by decide +kernel
theorem d_St_link_56 : decode prog_1_method_16_code 56 = .ok (.iaload, 1) := by decide +kernel
theorem d_St_link_57 : decode prog_1_method_16_code 57 = .ok (.ireturn, 1) := by decide +kernel
theorem d_St_link_58 : decode prog_1_method_16_code 58 = .ok (.aload_n 0, 1) := by decide +kernel
theorem d_St_link_59 : decode prog_1_method_16_code 59 = .ok (.getfield 26, 3) := by decide +kernel
theorem d_St_link_62 : decode prog_1_method_16_code 62 = .ok (.getfield 209, 3) := by decide +kernel
theorem d_St_link_65 : decode prog_1_method_16_code 65 = .ok (.iload_n 1, 1) := by decide +kernel
theorem d_St_link_66 : decode prog_1_method_16_code 66 = .ok (.iaload, 1) := by decide +kernel
theorem d_St_link_67 : decode prog_1_method_16_code 67 = .ok (.ireturn, 1) := by decide +kernel
theorem d_St_link_68 : decode prog_1_method_16_code 68 = .ok (.aload_n 0, 1) := by decide +kernel
theorem d_St_link_69 : decode prog_1_method_16_code 69 = .ok (.getfield 35, 3) := by decide +kernel
theorem d_St_link_72 : decode prog_1_method_16_code 72 = .ok (.getfield 141, 3) := by decide +kernel
theorem d_St_link_75 : decode prog_1_method_16_code 75 = .ok (.iload_n 1, 1) := by decide +kernel
theorem d_St_link_76 : decode prog_1_method_16_code 76 = .ok (.iaload, 1) := by decide +kernel
theorem d_St_link_77 : decode prog_1_method_16_code 77 = .ok (.ireturn, 1) := by decide +kernel
theorem d_St_link_78 : decode prog_1_method_16_code 78 = .ok (.aload_n 0, 1) := by decide +kernel
theorem d_St_link_79 : decode prog_1_method_16_code 79 = .ok (.getfield 35, 3) := by decide +kernel
theorem d_St_link_82 : decode prog_1_method_16_code 82 = .ok (.getfield 134, 3) := by decide +kernel
theorem d_St_link_85 : decode prog_1_method_16_code 85 = .ok (.iload_n 1, 1) := by decide +kernel
theorem d_St_link_86 : decode prog_1_method_16_code 86 = .ok (.iaload, 1) := by decide +kernel
theorem d_St_link_87 : decode prog_1_method_16_code 87 = .ok (.ireturn, 1) := by decide +kernel
theorem d_St_link_88 : decode prog_1_method_16_code 88 = .ok (.aload_n 0, 1) := by decide +kernel
theorem d_St_link_89 : decode prog_1_method_16_code 89 = .ok (.getfield 35, 3) := by decide +kernel
theorem d_St_link_92 : decode prog_1_method_16_code 92 = .ok (.iload_n 1, 1) := by decide +kernel
theorem d_St_link_93 : decode prog_1_method_16_code 93 = .ok (.invokevirtual 212, 3) := by decide +kernel
theorem d_St_link_96 : decode prog_1_method_16_code 96 = .ok (.ireturn, 1) := by decide +kernel
theorem d_St_link_97 : decode prog_1_method_16_code 97 = .ok (.iconst (-1), 1) := by decide +kernel
theorem d_St_link_98 : decode prog_1_method_16_code 98 = .ok (.ireturn, 1) := by decide +kernel
def wp_St_link (x1 : Int32) (x2 : Int32) (σ : sx_M) (Q : Int32 → sx_M → Prop) : Prop := wp_Pl_isLink 0 x1 σ (fun r1 σ1 => if r1 = 0 then (Q (-1) σ1) else (if x2 = 0 then (vp_in x1 16 ∧ (Q (σ1 9 0 0 x1.toNatClampNeg) σ1)) else (if x2 = 1 then (vp_in x1 16 ∧ (Q (σ1 10 0 0 x1.toNatClampNeg) σ1)) else (if x2 = 2 then (vp_in x1 16 ∧ (Q (σ1 19 0 0 x1.toNatClampNeg) σ1)) else (if x2 = 3 then (vp_in x1 16 ∧ (Q (σ1 18 0 0 x1.toNatClampNeg) σ1)) else (if x2 = 4 then (wp_Ne_stepOf 0 x1 σ1 (fun r12 σ12 => Q r12 σ12)) else (Q (-1) σ1)))))))
abbrev rm_St_link : Room := { frames := 1, cells := 0, slots := 0, locals := 21 }
set_option maxRecDepth 100000 in
set_option maxHeartbeats 4000000 in
theorem c_St_link {l : Launch} {K : sx_K} (hK : kx_C K) (x1 : Int32) (x2 : Int32) (σ : sx_M) (τ : sx_L) (Q : Int32 → sx_M → Prop)  (h : wp_St_link x1 x2 σ Q) : Met l y_St_link (sx_wd y_St_link prog_1_method_16_code 3 (some .int)) rm_St_link (sx_Pc K [.ref (K.2.2.1 0 0 0), .int x1, .int x2] σ τ) (sx_Qi K (fun r σ _ => Q r σ)) 0 0 (sx_A K) := by
  refine sx_met (by decide) (Nat.le_of_ble_eq_true rfl) (fun X hX hE => ?_)
  replace hX : sx_C X K prog_1_method_16_code 3 "SensorTree" (some .int) rm_St_link l := hX
  show sx_G X K 3 0 [(0, .ref (K.2.2.1 0 0 0)), (1, .int x1), (2, .int x2)] [] (sx_H K σ τ)
  unfold wp_St_link at h
  refine sx_aload_n (pc2 := 1) hX 0 d_St_link_0 rfl rfl rfl ?_
  refine fg_St_26 (pc2 := 4) hX (hK 0 0 0 (by decide) (by decide)) d_St_link_1 rfl ?_
  refine sx_iload_n (pc2 := 5) hX 1 d_St_link_4 rfl rfl rfl ?_
  refine cl_St_128 (pc2 := 8) hX hK h (by decide) ⟨Nat.le_of_ble_eq_true rfl, Nat.le_of_ble_eq_true rfl⟩ (Nat.le_of_ble_eq_true rfl) d_St_link_5 rfl (fun r1 σ1 τ1 h => ?_)
  refine sx_if_ne (tgt := 13) (pc2 := 11) hX d_St_link_8 (by decide) rfl (fun hc2 => ?_) (fun hc2 => ?_)
  · replace h := sx_f h hc2
    refine sx_iload_n (pc2 := 14) hX 2 d_St_link_13 rfl rfl rfl ?_
    by_cases hc3 : x2 = 0
    · replace h := sx_t h hc3
      refine sx_swi (tgt := 48) hX 0 hc3 d_St_link_14 (by decide) (by decide) rfl (by decide) ?_
      refine sx_aload_n (pc2 := 49) hX 0 d_St_link_48 rfl rfl rfl ?_
      refine fg_St_26 (pc2 := 52) hX (hK 0 0 0 (by decide) (by decide)) d_St_link_49 rfl ?_
      refine fg_St_206 (pc2 := 55) hX (hK 8 0 0 (by decide) (by decide)) d_St_link_52 rfl ?_
      refine sx_iload_n (pc2 := 56) hX 1 d_St_link_55 rfl rfl rfl ?_
      obtain ⟨hc4, h⟩ := h
      refine sx_iald (pc2 := 57) hX (hK 9 0 0 (by decide) (by decide)) rfl hc4 d_St_link_56 rfl ?_
      exact sx_iret hX hE h d_St_link_57
    · replace h := sx_f h hc3
      by_cases hc5 : x2 = 1
      · replace h := sx_t h hc5
        refine sx_swi (tgt := 58) hX 1 hc5 d_St_link_14 (by decide) (by decide) rfl (by decide) ?_
        refine sx_aload_n (pc2 := 59) hX 0 d_St_link_58 rfl rfl rfl ?_
        refine fg_St_26 (pc2 := 62) hX (hK 0 0 0 (by decide) (by decide)) d_St_link_59 rfl ?_
        refine fg_St_209 (pc2 := 65) hX (hK 8 0 0 (by decide) (by decide)) d_St_link_62 rfl ?_
        refine sx_iload_n (pc2 := 66) hX 1 d_St_link_65 rfl rfl rfl ?_
        obtain ⟨hc6, h⟩ := h
        refine sx_iald (pc2 := 67) hX (hK 10 0 0 (by decide) (by decide)) rfl hc6 d_St_link_66 rfl ?_
        exact sx_iret hX hE h d_St_link_67
      · replace h := sx_f h hc5
        by_cases hc7 : x2 = 2
        · replace h := sx_t h hc7
          refine sx_swi (tgt := 68) hX 2 hc7 d_St_link_14 (by decide) (by decide) rfl (by decide) ?_
          refine sx_aload_n (pc2 := 69) hX 0 d_St_link_68 rfl rfl rfl ?_
          refine fg_St_35 (pc2 := 72) hX (hK 0 0 0 (by decide) (by decide)) d_St_link_69 rfl ?_
          refine fg_St_141 (pc2 := 75) hX (hK 16 0 0 (by decide) (by decide)) d_St_link_72 rfl ?_
          refine sx_iload_n (pc2 := 76) hX 1 d_St_link_75 rfl rfl rfl ?_
          obtain ⟨hc8, h⟩ := h
          refine sx_iald (pc2 := 77) hX (hK 19 0 0 (by decide) (by decide)) rfl hc8 d_St_link_76 rfl ?_
          exact sx_iret hX hE h d_St_link_77
        · replace h := sx_f h hc7
          by_cases hc9 : x2 = 3
          · replace h := sx_t h hc9
            refine sx_swi (tgt := 78) hX 3 hc9 d_St_link_14 (by decide) (by decide) rfl (by decide) ?_
            refine sx_aload_n (pc2 := 79) hX 0 d_St_link_78 rfl rfl rfl ?_
            refine fg_St_35 (pc2 := 82) hX (hK 0 0 0 (by decide) (by decide)) d_St_link_79 rfl ?_
            refine fg_St_134 (pc2 := 85) hX (hK 16 0 0 (by decide) (by decide)) d_St_link_82 rfl ?_
            refine sx_iload_n (pc2 := 86) hX 1 d_St_link_85 rfl rfl rfl ?_
            obtain ⟨hc10, h⟩ := h
            refine sx_iald (pc2 := 87) hX (hK 18 0 0 (by decide) (by decide)) rfl hc10 d_St_link_86 rfl ?_
            exact sx_iret hX hE h d_St_link_87
          · replace h := sx_f h hc9
            by_cases hc11 : x2 = 4
            · replace h := sx_t h hc11
              refine sx_swi (tgt := 88) hX 4 hc11 d_St_link_14 (by decide) (by decide) rfl (by decide) ?_
              refine sx_aload_n (pc2 := 89) hX 0 d_St_link_88 rfl rfl rfl ?_
              refine fg_St_35 (pc2 := 92) hX (hK 0 0 0 (by decide) (by decide)) d_St_link_89 rfl ?_
              refine sx_iload_n (pc2 := 93) hX 1 d_St_link_92 rfl rfl rfl ?_
              refine cl_St_212 (pc2 := 96) hX hK h (by decide) ⟨Nat.le_of_ble_eq_true rfl, Nat.le_of_ble_eq_true rfl⟩ (Nat.le_of_ble_eq_true rfl) d_St_link_93 rfl (fun r12 σ12 τ12 h => ?_)
              exact sx_iret hX hE h d_St_link_96
            · replace h := sx_f h hc11
              refine sx_swo (tgt := 97) hX d_St_link_14 (sx_out x2 4 (fun j hj => match j, hj with | 0, _ => hc3 | 1, _ => hc5 | 2, _ => hc7 | 3, _ => hc9 | 4, _ => hc11 | j + 5, hj => absurd hj (by omega)) (by decide)) (by decide) ?_
              refine sx_iconst (v := (-1)) (pc2 := 98) hX d_St_link_97 (by decide) rfl ?_
              exact sx_iret hX hE h d_St_link_98
  · replace h := sx_t h hc2
    refine sx_iconst (v := (-1)) (pc2 := 12) hX d_St_link_11 (by decide) rfl ?_
    exact sx_iret hX hE h d_St_link_12
def y_St_neighbours : MethodName := ⟨"SensorTree", "neighbours", "(I)I"⟩
theorem hy_St_neighbours : y_St_neighbours.cls ≠ "java/lang/invoke/MethodHandle" ∧ y_St_neighbours.cls ≠ "java/lang/invoke/VarHandle" ∧ (parseMethodDescriptor y_St_neighbours.desc).map (fun d => d.parameters.length) = some 1 := by decide +kernel
theorem d_St_neighbours_0 : decode prog_1_method_17_code 0 = .ok (.aload_n 0, 1) := by decide +kernel
theorem d_St_neighbours_1 : decode prog_1_method_17_code 1 = .ok (.getfield 26, 3) := by decide +kernel
theorem d_St_neighbours_4 : decode prog_1_method_17_code 4 = .ok (.iload_n 1, 1) := by decide +kernel
theorem d_St_neighbours_5 : decode prog_1_method_17_code 5 = .ok (.invokevirtual 144, 3) := by decide +kernel
theorem d_St_neighbours_8 : decode prog_1_method_17_code 8 = .ok (.ifCond .ne 5, 3) := by decide +kernel
theorem d_St_neighbours_11 : decode prog_1_method_17_code 11 = .ok (.iconst (-1), 1) := by decide +kernel
theorem d_St_neighbours_12 : decode prog_1_method_17_code 12 = .ok (.ireturn, 1) := by decide +kernel
theorem d_St_neighbours_13 : decode prog_1_method_17_code 13 = .ok (.iconst 0, 1) := by decide +kernel
theorem d_St_neighbours_14 : decode prog_1_method_17_code 14 = .ok (.istore_n 2, 1) := by decide +kernel
theorem d_St_neighbours_15 : decode prog_1_method_17_code 15 = .ok (.iconst 0, 1) := by decide +kernel
theorem d_St_neighbours_16 : decode prog_1_method_17_code 16 = .ok (.istore_n 3, 1) := by decide +kernel
theorem d_St_neighbours_17 : decode prog_1_method_17_code 17 = .ok (.iload_n 3, 1) := by decide +kernel
theorem d_St_neighbours_18 : decode prog_1_method_17_code 18 = .ok (.aload_n 0, 1) := by decide +kernel
theorem d_St_neighbours_19 : decode prog_1_method_17_code 19 = .ok (.getfield 26, 3) := by decide +kernel
theorem d_St_neighbours_22 : decode prog_1_method_17_code 22 = .ok (.getfield 160, 3) := by decide +kernel
theorem d_St_neighbours_25 : decode prog_1_method_17_code 25 = .ok (.if_icmp .ge 27, 3) := by decide +kernel
theorem d_St_neighbours_28 : decode prog_1_method_17_code 28 = .ok (.aload_n 0, 1) := by decide +kernel
theorem d_St_neighbours_29 : decode prog_1_method_17_code 29 = .ok (.getfield 35, 3) := by decide +kernel
theorem d_St_neighbours_32 : decode prog_1_method_17_code 32 = .ok (.iload_n 1, 1) := by decide +kernel
theorem d_St_neighbours_33 : decode prog_1_method_17_code 33 = .ok (.iload_n 3, 1) := by decide +kernel
theorem d_St_neighbours_34 : decode prog_1_method_17_code 34 = .ok (.invokevirtual 215, 3) := by decide +kernel
theorem d_St_neighbours_37 : decode prog_1_method_17_code 37 = .ok (.ifCond .eq 9, 3) := by decide +kernel
theorem d_St_neighbours_40 : decode prog_1_method_17_code 40 = .ok (.iload_n 2, 1) := by decide +kernel
theorem d_St_neighbours_41 : decode prog_1_method_17_code 41 = .ok (.iconst 1, 1) := by decide +kernel
theorem d_St_neighbours_42 : decode prog_1_method_17_code 42 = .ok (.iload_n 3, 1) := by decide +kernel
theorem d_St_neighbours_43 : decode prog_1_method_17_code 43 = .ok (.ishl, 1) := by decide +kernel
theorem d_St_neighbours_44 : decode prog_1_method_17_code 44 = .ok (.ior, 1) := by decide +kernel
theorem d_St_neighbours_45 : decode prog_1_method_17_code 45 = .ok (.istore_n 2, 1) := by decide +kernel
theorem d_St_neighbours_46 : decode prog_1_method_17_code 46 = .ok (.iinc 3 1, 3) := by decide +kernel
theorem d_St_neighbours_49 : decode prog_1_method_17_code 49 = .ok (.goto (-32), 3) := by decide +kernel
theorem d_St_neighbours_52 : decode prog_1_method_17_code 52 = .ok (.iload_n 2, 1) := by decide +kernel
theorem d_St_neighbours_53 : decode prog_1_method_17_code 53 = .ok (.ireturn, 1) := by decide +kernel
def wp_St_neighbours_b46  (k17 : Int32 → Int32 → Int32 → sx_M → Prop) (Q : Int32 → sx_M → Prop) (v1 : Int32) (v2 : Int32) (v3 : Int32) (σ : sx_M) : Prop := k17 v1 v2 (v3 + 1) σ
def wp_St_neighbours_b17   (Q : Int32 → sx_M → Prop) : Nat → Int32 → Int32 → Int32 → sx_M → Prop
  | 0, _, _, _, _ => False
  | f + 1, v1, v2, v3, σ => if σ 8 0 0 0 ≤ v3 then (Q v2 σ) else (wp_Ne_areNeighbours 0 v1 v3 σ (fun r2 σ2 => if r2 = 0 then (wp_St_neighbours_b46 (wp_St_neighbours_b17 Q f) Q v1 v2 v3 σ2) else (wp_St_neighbours_b46 (wp_St_neighbours_b17 Q f) Q v1 (v2 ||| (1 <<< (v3 &&& 31))) v3 σ2)))
def wp_St_neighbours (x1 : Int32) (σ : sx_M) (Q : Int32 → sx_M → Prop) : Prop := wp_Pl_isPost 0 x1 σ (fun r4 σ4 => if r4 = 0 then (Q (-1) σ4) else (∃ f17, wp_St_neighbours_b17 Q f17 x1 0 0 σ4))
abbrev rm_St_neighbours : Room := { frames := 1, cells := 0, slots := 0, locals := 23 }
set_option maxRecDepth 100000 in
set_option maxHeartbeats 4000000 in
theorem g_St_neighbours_b46 {l : Launch} {K : sx_K} {X : sx_T}  {k17 : Int32 → Int32 → Int32 → sx_M → Prop} {Q : Int32 → sx_M → Prop} (hX : sx_C X K prog_1_method_17_code 4 "SensorTree" (some .int) rm_St_neighbours l) (hK : kx_C K) (hE : sx_E X K (sx_Qi K (fun r σ _ => Q r σ)))  (hk17 : ∀ (v1 : Int32) (v2 : Int32) (v3 : Int32) (σ : sx_M) (τ : sx_L) , k17 v1 v2 v3 σ → sx_G X K 4 17 [(0, .ref (K.2.2.1 0 0 0)), (1, .int v1), (2, .int v2), (3, .int v3)] [] (sx_H K σ τ)) (v1 : Int32) (v2 : Int32) (v3 : Int32) (σ : sx_M) (τ : sx_L)  (h : wp_St_neighbours_b46 k17 Q  v1 v2 v3 σ) : sx_G X K 4 46 [(0, .ref (K.2.2.1 0 0 0)), (1, .int v1), (2, .int v2), (3, .int v3)] [] (sx_H K σ τ) := by
  unfold wp_St_neighbours_b46 at h
  refine sx_iinc (pc2 := 49) hX 3 _ [(0, .ref (K.2.2.1 0 0 0)), (1, .int v1), (2, .int v2), (3, .int (v3 + 1))] [1, 2, 3, 0] d_St_neighbours_46 rfl (v3 + 1) rfl (by decide) rfl rfl rfl ?_
  refine sx_goto (tgt := 17) hX d_St_neighbours_49 (by decide) ?_
  exact hk17 v1 v2 (v3 + 1) _ _ h
set_option maxRecDepth 100000 in
set_option maxHeartbeats 4000000 in
theorem g_St_neighbours_b17 {l : Launch} {K : sx_K} {X : sx_T}   {Q : Int32 → sx_M → Prop} (hX : sx_C X K prog_1_method_17_code 4 "SensorTree" (some .int) rm_St_neighbours l) (hK : kx_C K) (hE : sx_E X K (sx_Qi K (fun r σ _ => Q r σ)))  : ∀ (f : Nat) (v1 : Int32) (v2 : Int32) (v3 : Int32) (σ : sx_M) (τ : sx_L) , wp_St_neighbours_b17 Q f v1 v2 v3 σ → sx_G X K 4 17 [(0, .ref (K.2.2.1 0 0 0)), (1, .int v1), (2, .int v2), (3, .int v3)] [] (sx_H K σ τ) := by
  intro f
  induction f with
  | zero => intro v1 v2 v3 σ τ h; exact (show False from h).elim
  | succ f ih =>
    intro v1 v2 v3 σ τ h
    rw [wp_St_neighbours_b17] at h
    refine sx_iload_n (pc2 := 18) hX 3 d_St_neighbours_17 rfl rfl rfl ?_
    refine sx_aload_n (pc2 := 19) hX 0 d_St_neighbours_18 rfl rfl rfl ?_
    refine fg_St_26 (pc2 := 22) hX (hK 0 0 0 (by decide) (by decide)) d_St_neighbours_19 rfl ?_
    refine fg_St_160 (pc2 := 25) hX (hK 8 0 0 (by decide) (by decide)) d_St_neighbours_22 rfl ?_
    refine sx_icmp_ge (tgt := 52) (pc2 := 28) hX d_St_neighbours_25 (by decide) rfl (fun hc1 => ?_) (fun hc1 => ?_)
    · replace h := sx_t h hc1
      refine sx_iload_n (pc2 := 53) hX 2 d_St_neighbours_52 rfl rfl rfl ?_
      exact sx_iret hX hE h d_St_neighbours_53
    · replace h := sx_f h hc1
      refine sx_aload_n (pc2 := 29) hX 0 d_St_neighbours_28 rfl rfl rfl ?_
      refine fg_St_35 (pc2 := 32) hX (hK 0 0 0 (by decide) (by decide)) d_St_neighbours_29 rfl ?_
      refine sx_iload_n (pc2 := 33) hX 1 d_St_neighbours_32 rfl rfl rfl ?_
      refine sx_iload_n (pc2 := 34) hX 3 d_St_neighbours_33 rfl rfl rfl ?_
      refine cl_St_215 (pc2 := 37) hX hK h (by decide) ⟨Nat.le_of_ble_eq_true rfl, Nat.le_of_ble_eq_true rfl⟩ (Nat.le_of_ble_eq_true rfl) d_St_neighbours_34 rfl (fun r2 σ2 τ2 h => ?_)
      refine sx_if_eq (tgt := 46) (pc2 := 40) hX d_St_neighbours_37 (by decide) rfl (fun hc3 => ?_) (fun hc3 => ?_)
      · replace h := sx_t h hc3
        exact g_St_neighbours_b46 hX hK hE  ih v1 v2 v3 _ _ h
      · replace h := sx_f h hc3
        refine sx_iload_n (pc2 := 41) hX 2 d_St_neighbours_40 rfl rfl rfl ?_
        refine sx_iconst (v := 1) (pc2 := 42) hX d_St_neighbours_41 (by decide) rfl ?_
        refine sx_iload_n (pc2 := 43) hX 3 d_St_neighbours_42 rfl rfl rfl ?_
        refine sx_ishl (pc2 := 44) hX d_St_neighbours_43 rfl ?_
        refine sx_ior (pc2 := 45) hX d_St_neighbours_44 rfl ?_
        refine sx_istore_n (pc2 := 46) hX _ [(0, .ref (K.2.2.1 0 0 0)), (1, .int v1), (2, .int (v2 ||| (1 <<< (v3 &&& 31)))), (3, .int v3)] [1, 2, 0, 3] d_St_neighbours_45 rfl (by decide) rfl rfl rfl ?_
        exact g_St_neighbours_b46 hX hK hE  ih v1 (v2 ||| (1 <<< (v3 &&& 31))) v3 _ _ h
set_option maxRecDepth 100000 in
set_option maxHeartbeats 4000000 in
theorem c_St_neighbours {l : Launch} {K : sx_K} (hK : kx_C K) (x1 : Int32) (σ : sx_M) (τ : sx_L) (Q : Int32 → sx_M → Prop)  (h : wp_St_neighbours x1 σ Q) : Met l y_St_neighbours (sx_wd y_St_neighbours prog_1_method_17_code 4 (some .int)) rm_St_neighbours (sx_Pc K [.ref (K.2.2.1 0 0 0), .int x1] σ τ) (sx_Qi K (fun r σ _ => Q r σ)) 0 0 (sx_A K) := by
  refine sx_met (by decide) (Nat.le_of_ble_eq_true rfl) (fun X hX hE => ?_)
  replace hX : sx_C X K prog_1_method_17_code 4 "SensorTree" (some .int) rm_St_neighbours l := hX
  show sx_G X K 4 0 [(0, .ref (K.2.2.1 0 0 0)), (1, .int x1)] [] (sx_H K σ τ)
  unfold wp_St_neighbours at h
  refine sx_aload_n (pc2 := 1) hX 0 d_St_neighbours_0 rfl rfl rfl ?_
  refine fg_St_26 (pc2 := 4) hX (hK 0 0 0 (by decide) (by decide)) d_St_neighbours_1 rfl ?_
  refine sx_iload_n (pc2 := 5) hX 1 d_St_neighbours_4 rfl rfl rfl ?_
  refine cl_St_144 (pc2 := 8) hX hK h (by decide) ⟨Nat.le_of_ble_eq_true rfl, Nat.le_of_ble_eq_true rfl⟩ (Nat.le_of_ble_eq_true rfl) d_St_neighbours_5 rfl (fun r4 σ4 τ4 h => ?_)
  refine sx_if_ne (tgt := 13) (pc2 := 11) hX d_St_neighbours_8 (by decide) rfl (fun hc5 => ?_) (fun hc5 => ?_)
  · replace h := sx_f h hc5
    refine sx_iconst (v := 0) (pc2 := 14) hX d_St_neighbours_13 (by decide) rfl ?_
    refine sx_istore_n (pc2 := 15) hX _ [(0, .ref (K.2.2.1 0 0 0)), (1, .int x1), (2, .int 0)] [1, 2, 0] d_St_neighbours_14 rfl (by decide) rfl rfl rfl ?_
    refine sx_iconst (v := 0) (pc2 := 16) hX d_St_neighbours_15 (by decide) rfl ?_
    refine sx_istore_n (pc2 := 17) hX _ [(0, .ref (K.2.2.1 0 0 0)), (1, .int x1), (2, .int 0), (3, .int 0)] [1, 2, 3, 0] d_St_neighbours_16 rfl (by decide) rfl rfl rfl ?_
    obtain ⟨f17, h⟩ := h
    exact g_St_neighbours_b17 hX hK hE   f17 x1 0 0 _ _ h
  · replace h := sx_t h hc5
    refine sx_iconst (v := (-1)) (pc2 := 12) hX d_St_neighbours_11 (by decide) rfl ?_
    exact sx_iret hX hE h d_St_neighbours_12
def y_St_truth : MethodName := ⟨"SensorTree", "truth", "(I)I"⟩
theorem hy_St_truth : y_St_truth.cls ≠ "java/lang/invoke/MethodHandle" ∧ y_St_truth.cls ≠ "java/lang/invoke/VarHandle" ∧ (parseMethodDescriptor y_St_truth.desc).map (fun d => d.parameters.length) = some 1 := by decide +kernel
theorem d_St_truth_0 : decode prog_1_method_18_code 0 = .ok (.aload_n 0, 1) := by decide +kernel
theorem d_St_truth_1 : decode prog_1_method_18_code 1 = .ok (.iload_n 1, 1) := by decide +kernel
theorem d_St_truth_2 : decode prog_1_method_18_code 2 = .ok (.invokevirtual 218, 3) := by decide +kernel
theorem d_St_truth_5 : decode prog_1_method_18_code 5 = .ok (.ifCond .ne 5, 3) := by decide +kernel
theorem d_St_truth_8 : decode prog_1_method_18_code 8 = .ok (.iconst (-1), 1) := by decide +kernel
theorem d_St_truth_9 : decode prog_1_method_18_code 9 = .ok (.ireturn, 1) := by decide +kernel
theorem d_St_truth_10 : decode prog_1_method_18_code 10 = .ok (.aload_n 0, 1) := by decide +kernel
theorem d_St_truth_11 : decode prog_1_method_18_code 11 = .ok (.getfield 57, 3) := by decide +kernel
theorem d_St_truth_14 : decode prog_1_method_18_code 14 = .ok (.aload_n 0, 1) := by decide +kernel
theorem d_St_truth_15 : decode prog_1_method_18_code 15 = .ok (.getfield 35, 3) := by decide +kernel
theorem d_St_truth_18 : decode prog_1_method_18_code 18 = .ok (.iconst (-1), 1) := by decide +kernel
theorem d_St_truth_19 : decode prog_1_method_18_code 19 = .ok (.invokevirtual 221, 3) := by decide +kernel
theorem d_St_truth_22 : decode prog_1_method_18_code 22 = .ok (.aload_n 0, 1) := by decide +kernel
theorem d_St_truth_23 : decode prog_1_method_18_code 23 = .ok (.getfield 57, 3) := by decide +kernel
theorem d_St_truth_26 : decode prog_1_method_18_code 26 = .ok (.getfield 225, 3) := by decide +kernel
theorem d_St_truth_29 : decode prog_1_method_18_code 29 = .ok (.iload_n 1, 1) := by decide +kernel
theorem d_St_truth_30 : decode prog_1_method_18_code 30 = .ok (.iaload, 1) := by decide +kernel
theorem d_St_truth_31 : decode prog_1_method_18_code 31 = .ok (.ireturn, 1) := by decide +kernel
def wp_St_truth (x1 : Int32) (σ : sx_M) (Q : Int32 → sx_M → Prop) : Prop := wp_St_isOn x1 σ (fun r1 σ1 => if r1 = 0 then (Q (-1) σ1) else (wp_Tr_reckon 0 (-1 : Int32) σ1 (fun σ3 => vp_in x1 7 ∧ (Q (σ3 33 0 0 x1.toNatClampNeg) σ3))))
abbrev rm_St_truth : Room := { frames := 2, cells := 0, slots := 0, locals := 51 }
set_option maxRecDepth 100000 in
set_option maxHeartbeats 4000000 in
theorem c_St_truth {l : Launch} {K : sx_K} (hK : kx_C K) (x1 : Int32) (σ : sx_M) (τ : sx_L) (Q : Int32 → sx_M → Prop)  (h : wp_St_truth x1 σ Q) : Met l y_St_truth (sx_wd y_St_truth prog_1_method_18_code 2 (some .int)) rm_St_truth (sx_Pc K [.ref (K.2.2.1 0 0 0), .int x1] σ τ) (sx_Qi K (fun r σ _ => Q r σ)) 0 0 (sx_A K) := by
  refine sx_met (by decide) (Nat.le_of_ble_eq_true rfl) (fun X hX hE => ?_)
  replace hX : sx_C X K prog_1_method_18_code 2 "SensorTree" (some .int) rm_St_truth l := hX
  show sx_G X K 2 0 [(0, .ref (K.2.2.1 0 0 0)), (1, .int x1)] [] (sx_H K σ τ)
  unfold wp_St_truth at h
  refine sx_aload_n (pc2 := 1) hX 0 d_St_truth_0 rfl rfl rfl ?_
  refine sx_iload_n (pc2 := 2) hX 1 d_St_truth_1 rfl rfl rfl ?_
  refine cl_St_218 (pc2 := 5) hX hK h  ⟨Nat.le_of_ble_eq_true rfl, Nat.le_of_ble_eq_true rfl⟩ (Nat.le_of_ble_eq_true rfl) d_St_truth_2 rfl (fun r1 σ1 τ1 h => ?_)
  refine sx_if_ne (tgt := 10) (pc2 := 8) hX d_St_truth_5 (by decide) rfl (fun hc2 => ?_) (fun hc2 => ?_)
  · replace h := sx_f h hc2
    refine sx_aload_n (pc2 := 11) hX 0 d_St_truth_10 rfl rfl rfl ?_
    refine fg_St_57 (pc2 := 14) hX (hK 0 0 0 (by decide) (by decide)) d_St_truth_11 rfl ?_
    refine sx_aload_n (pc2 := 15) hX 0 d_St_truth_14 rfl rfl rfl ?_
    refine fg_St_35 (pc2 := 18) hX (hK 0 0 0 (by decide) (by decide)) d_St_truth_15 rfl ?_
    refine sx_iconst (v := (-1)) (pc2 := 19) hX d_St_truth_18 (by decide) rfl ?_
    refine cl_St_221 (pc2 := 22) hX hK h (by decide) ⟨Nat.le_of_ble_eq_true rfl, Nat.le_of_ble_eq_true rfl⟩ (Nat.le_of_ble_eq_true rfl) d_St_truth_19 rfl (fun σ3 τ3 h => ?_)
    refine sx_aload_n (pc2 := 23) hX 0 d_St_truth_22 rfl rfl rfl ?_
    refine fg_St_57 (pc2 := 26) hX (hK 0 0 0 (by decide) (by decide)) d_St_truth_23 rfl ?_
    refine fg_St_225 (pc2 := 29) hX (hK 32 0 0 (by decide) (by decide)) d_St_truth_26 rfl ?_
    refine sx_iload_n (pc2 := 30) hX 1 d_St_truth_29 rfl rfl rfl ?_
    obtain ⟨hc4, h⟩ := h
    refine sx_iald (pc2 := 31) hX (hK 33 0 0 (by decide) (by decide)) rfl hc4 d_St_truth_30 rfl ?_
    exact sx_iret hX hE h d_St_truth_31
  · replace h := sx_t h hc2
    refine sx_iconst (v := (-1)) (pc2 := 9) hX d_St_truth_8 (by decide) rfl ?_
    exact sx_iret hX hE h d_St_truth_9
def y_St_right : MethodName := ⟨"SensorTree", "right", "()I"⟩
theorem hy_St_right : y_St_right.cls ≠ "java/lang/invoke/MethodHandle" ∧ y_St_right.cls ≠ "java/lang/invoke/VarHandle" ∧ (parseMethodDescriptor y_St_right.desc).map (fun d => d.parameters.length) = some 0 := by decide +kernel
theorem d_St_right_0 : decode prog_1_method_19_code 0 = .ok (.aload_n 0, 1) := by decide +kernel
theorem d_St_right_1 : decode prog_1_method_19_code 1 = .ok (.getfield 57, 3) := by decide +kernel
theorem d_St_right_4 : decode prog_1_method_19_code 4 = .ok (.aload_n 0, 1) := by decide +kernel
theorem d_St_right_5 : decode prog_1_method_19_code 5 = .ok (.getfield 35, 3) := by decide +kernel
theorem d_St_right_8 : decode prog_1_method_19_code 8 = .ok (.iconst (-1), 1) := by decide +kernel
theorem d_St_right_9 : decode prog_1_method_19_code 9 = .ok (.invokevirtual 221, 3) := by decide +kernel
theorem d_St_right_12 : decode prog_1_method_19_code 12 = .ok (.aload_n 0, 1) := by decide +kernel
theorem d_St_right_13 : decode prog_1_method_19_code 13 = .ok (.getfield 57, 3) := by decide +kernel
theorem d_St_right_16 : decode prog_1_method_19_code 16 = .ok (.aload_n 0, 1) := by decide +kernel
theorem d_St_right_17 : decode prog_1_method_19_code 17 = .ok (.getfield 35, 3) := by decide +kernel
theorem d_St_right_20 : decode prog_1_method_19_code 20 = .ok (.invokevirtual 228, 3) := by decide +kernel
theorem d_St_right_23 : decode prog_1_method_19_code 23 = .ok (.ifCond .eq 7, 3) := by decide +kernel
theorem d_St_right_26 : decode prog_1_method_19_code 26 = .ok (.iconst 1, 1) := by decide +kernel
theorem d_St_right_27 : decode prog_1_method_19_code 27 = .ok (.goto 4, 3) := by decide +kernel
theorem d_St_right_30 : decode prog_1_method_19_code 30 = .ok (.iconst 0, 1) := by decide +kernel
theorem d_St_right_31 : decode prog_1_method_19_code 31 = .ok (.ireturn, 1) := by decide +kernel
def wp_St_right_b31   (Q : Int32 → sx_M → Prop) (w0 : Int32) (σ : sx_M) : Prop := Q w0 σ
def wp_St_right  (σ : sx_M) (Q : Int32 → sx_M → Prop) : Prop := wp_Tr_reckon 0 (-1 : Int32) σ (fun σ1 => wp_Tr_isRight 0 σ1 (fun r2 σ2 => if r2 = 0 then (wp_St_right_b31 Q 0 σ2) else (wp_St_right_b31 Q 1 σ2)))
abbrev rm_St_right : Room := { frames := 4, cells := 0, slots := 0, locals := 91 }
set_option maxRecDepth 100000 in
set_option maxHeartbeats 4000000 in
theorem g_St_right_b31 {l : Launch} {K : sx_K} {X : sx_T}   {Q : Int32 → sx_M → Prop} (hX : sx_C X K prog_1_method_19_code 1 "SensorTree" (some .int) rm_St_right l) (hK : kx_C K) (hE : sx_E X K (sx_Qi K (fun r σ _ => Q r σ)))  (w0 : Int32) (σ : sx_M) (τ : sx_L)  (h : wp_St_right_b31 Q  w0 σ) : sx_G X K 1 31 [] [.int w0] (sx_H K σ τ) := by
  unfold wp_St_right_b31 at h
  exact sx_iret hX hE h d_St_right_31
set_option maxRecDepth 100000 in
set_option maxHeartbeats 4000000 in
theorem c_St_right {l : Launch} {K : sx_K} (hK : kx_C K)  (σ : sx_M) (τ : sx_L) (Q : Int32 → sx_M → Prop)  (h : wp_St_right σ Q) : Met l y_St_right (sx_wd y_St_right prog_1_method_19_code 1 (some .int)) rm_St_right (sx_Pc K [.ref (K.2.2.1 0 0 0)] σ τ) (sx_Qi K (fun r σ _ => Q r σ)) 0 0 (sx_A K) := by
  refine sx_met (by decide) (Nat.le_of_ble_eq_true rfl) (fun X hX hE => ?_)
  replace hX : sx_C X K prog_1_method_19_code 1 "SensorTree" (some .int) rm_St_right l := hX
  show sx_G X K 1 0 [(0, .ref (K.2.2.1 0 0 0))] [] (sx_H K σ τ)
  unfold wp_St_right at h
  refine sx_aload_n (pc2 := 1) hX 0 d_St_right_0 rfl rfl rfl ?_
  refine fg_St_57 (pc2 := 4) hX (hK 0 0 0 (by decide) (by decide)) d_St_right_1 rfl ?_
  refine sx_aload_n (pc2 := 5) hX 0 d_St_right_4 rfl rfl rfl ?_
  refine fg_St_35 (pc2 := 8) hX (hK 0 0 0 (by decide) (by decide)) d_St_right_5 rfl ?_
  refine sx_iconst (v := (-1)) (pc2 := 9) hX d_St_right_8 (by decide) rfl ?_
  refine cl_St_221 (pc2 := 12) hX hK h (by decide) ⟨Nat.le_of_ble_eq_true rfl, Nat.le_of_ble_eq_true rfl⟩ (Nat.le_of_ble_eq_true rfl) d_St_right_9 rfl (fun σ1 τ1 h => ?_)
  refine sx_aload_n (pc2 := 13) hX 0 d_St_right_12 rfl rfl rfl ?_
  refine fg_St_57 (pc2 := 16) hX (hK 0 0 0 (by decide) (by decide)) d_St_right_13 rfl ?_
  refine sx_aload_n (pc2 := 17) hX 0 d_St_right_16 rfl rfl rfl ?_
  refine fg_St_35 (pc2 := 20) hX (hK 0 0 0 (by decide) (by decide)) d_St_right_17 rfl ?_
  refine cl_St_228 (pc2 := 23) hX hK h (by decide) ⟨Nat.le_of_ble_eq_true rfl, Nat.le_of_ble_eq_true rfl⟩ (Nat.le_of_ble_eq_true rfl) d_St_right_20 rfl (fun r2 σ2 τ2 h => ?_)
  refine sx_if_eq (tgt := 30) (pc2 := 26) hX d_St_right_23 (by decide) rfl (fun hc3 => ?_) (fun hc3 => ?_)
  · replace h := sx_t h hc3
    refine sx_iconst (v := 0) (pc2 := 31) hX d_St_right_30 (by decide) rfl ?_
    refine sx_sub [] [] rfl ?_
    exact g_St_right_b31 hX hK hE   0 _ _ h
  · replace h := sx_f h hc3
    refine sx_iconst (v := 1) (pc2 := 27) hX d_St_right_26 (by decide) rfl ?_
    refine sx_goto (tgt := 31) hX d_St_right_27 (by decide) ?_
    refine sx_sub [] [] rfl ?_
    exact g_St_right_b31 hX hK hE   1 _ _ h
def y_St_circle : MethodName := ⟨"SensorTree", "circle", "()I"⟩
theorem hy_St_circle : y_St_circle.cls ≠ "java/lang/invoke/MethodHandle" ∧ y_St_circle.cls ≠ "java/lang/invoke/VarHandle" ∧ (parseMethodDescriptor y_St_circle.desc).map (fun d => d.parameters.length) = some 0 := by decide +kernel
theorem d_St_circle_0 : decode prog_1_method_20_code 0 = .ok (.iconst 0, 1) := by decide +kernel
theorem d_St_circle_1 : decode prog_1_method_20_code 1 = .ok (.istore_n 1, 1) := by decide +kernel
theorem d_St_circle_2 : decode prog_1_method_20_code 2 = .ok (.iconst 0, 1) := by decide +kernel
theorem d_St_circle_3 : decode prog_1_method_20_code 3 = .ok (.istore_n 2, 1) := by decide +kernel
theorem d_St_circle_4 : decode prog_1_method_20_code 4 = .ok (.iload_n 2, 1) := by decide +kernel
theorem d_St_circle_5 : decode prog_1_method_20_code 5 = .ok (.aload_n 0, 1) := by decide +kernel
theorem d_St_circle_6 : decode prog_1_method_20_code 6 = .ok (.getfield 26, 3) := by decide +kernel
theorem d_St_circle_9 : decode prog_1_method_20_code 9 = .ok (.getfield 160, 3) := by decide +kernel
theorem d_St_circle_12 : decode prog_1_method_20_code 12 = .ok (.if_icmp .ge 27, 3) := by decide +kernel
theorem d_St_circle_15 : decode prog_1_method_20_code 15 = .ok (.aload_n 0, 1) := by decide +kernel
theorem d_St_circle_16 : decode prog_1_method_20_code 16 = .ok (.getfield 35, 3) := by decide +kernel
theorem d_St_circle_19 : decode prog_1_method_20_code 19 = .ok (.iload_n 2, 1) := by decide +kernel
theorem d_St_circle_20 : decode prog_1_method_20_code 20 = .ok (.iload_n 2, 1) := by decide +kernel
theorem d_St_circle_21 : decode prog_1_method_20_code 21 = .ok (.invokevirtual 232, 3) := by decide +kernel
theorem d_St_circle_24 : decode prog_1_method_20_code 24 = .ok (.ifCond .eq 9, 3) := by decide +kernel
theorem d_St_circle_27 : decode prog_1_method_20_code 27 = .ok (.iload_n 1, 1) := by decide +kernel
theorem d_St_circle_28 : decode prog_1_method_20_code 28 = .ok (.iconst 1, 1) := by decide +kernel
theorem d_St_circle_29 : decode prog_1_method_20_code 29 = .ok (.iload_n 2, 1) := by decide +kernel
theorem d_St_circle_30 : decode prog_1_method_20_code 30 = .ok (.ishl, 1) := by decide +kernel
theorem d_St_circle_31 : decode prog_1_method_20_code 31 = .ok (.ior, 1) := by decide +kernel
theorem d_St_circle_32 : decode prog_1_method_20_code 32 = .ok (.istore_n 1, 1) := by decide +kernel
theorem d_St_circle_33 : decode prog_1_method_20_code 33 = .ok (.iinc 2 1, 3) := by decide +kernel
theorem d_St_circle_36 : decode prog_1_method_20_code 36 = .ok (.goto (-32), 3) := by decide +kernel
theorem d_St_circle_39 : decode prog_1_method_20_code 39 = .ok (.iload_n 1, 1) := by decide +kernel
theorem d_St_circle_40 : decode prog_1_method_20_code 40 = .ok (.ireturn, 1) := by decide +kernel
def wp_St_circle_b33  (k4 : Int32 → Int32 → sx_M → Prop) (Q : Int32 → sx_M → Prop) (v1 : Int32) (v2 : Int32) (σ : sx_M) : Prop := k4 v1 (v2 + 1) σ
def wp_St_circle_b4   (Q : Int32 → sx_M → Prop) : Nat → Int32 → Int32 → sx_M → Prop
  | 0, _, _, _ => False
  | f + 1, v1, v2, σ => if σ 8 0 0 0 ≤ v2 then (Q v1 σ) else (wp_Ne_comesTo 0 v2 v2 σ (fun r2 σ2 => if r2 = 0 then (wp_St_circle_b33 (wp_St_circle_b4 Q f) Q v1 v2 σ2) else (wp_St_circle_b33 (wp_St_circle_b4 Q f) Q (v1 ||| (1 <<< (v2 &&& 31))) v2 σ2)))
def wp_St_circle  (σ : sx_M) (Q : Int32 → sx_M → Prop) : Prop := ∃ f4, wp_St_circle_b4 Q f4 0 0 σ
abbrev rm_St_circle : Room := { frames := 2, cells := 0, slots := 0, locals := 45 }
set_option maxRecDepth 100000 in
set_option maxHeartbeats 4000000 in
theorem g_St_circle_b33 {l : Launch} {K : sx_K} {X : sx_T}  {k4 : Int32 → Int32 → sx_M → Prop} {Q : Int32 → sx_M → Prop} (hX : sx_C X K prog_1_method_20_code 3 "SensorTree" (some .int) rm_St_circle l) (hK : kx_C K) (hE : sx_E X K (sx_Qi K (fun r σ _ => Q r σ)))  (hk4 : ∀ (v1 : Int32) (v2 : Int32) (σ : sx_M) (τ : sx_L) , k4 v1 v2 σ → sx_G X K 3 4 [(0, .ref (K.2.2.1 0 0 0)), (1, .int v1), (2, .int v2)] [] (sx_H K σ τ)) (v1 : Int32) (v2 : Int32) (σ : sx_M) (τ : sx_L)  (h : wp_St_circle_b33 k4 Q  v1 v2 σ) : sx_G X K 3 33 [(0, .ref (K.2.2.1 0 0 0)), (1, .int v1), (2, .int v2)] [] (sx_H K σ τ) := by
  unfold wp_St_circle_b33 at h
  refine sx_iinc (pc2 := 36) hX 2 _ [(0, .ref (K.2.2.1 0 0 0)), (1, .int v1), (2, .int (v2 + 1))] [1, 2, 0] d_St_circle_33 rfl (v2 + 1) rfl (by decide) rfl rfl rfl ?_
  refine sx_goto (tgt := 4) hX d_St_circle_36 (by decide) ?_
  exact hk4 v1 (v2 + 1) _ _ h
set_option maxRecDepth 100000 in
set_option maxHeartbeats 4000000 in
theorem g_St_circle_b4 {l : Launch} {K : sx_K} {X : sx_T}   {Q : Int32 → sx_M → Prop} (hX : sx_C X K prog_1_method_20_code 3 "SensorTree" (some .int) rm_St_circle l) (hK : kx_C K) (hE : sx_E X K (sx_Qi K (fun r σ _ => Q r σ)))  : ∀ (f : Nat) (v1 : Int32) (v2 : Int32) (σ : sx_M) (τ : sx_L) , wp_St_circle_b4 Q f v1 v2 σ → sx_G X K 3 4 [(0, .ref (K.2.2.1 0 0 0)), (1, .int v1), (2, .int v2)] [] (sx_H K σ τ) := by
  intro f
  induction f with
  | zero => intro v1 v2 σ τ h; exact (show False from h).elim
  | succ f ih =>
    intro v1 v2 σ τ h
    rw [wp_St_circle_b4] at h
    refine sx_iload_n (pc2 := 5) hX 2 d_St_circle_4 rfl rfl rfl ?_
    refine sx_aload_n (pc2 := 6) hX 0 d_St_circle_5 rfl rfl rfl ?_
    refine fg_St_26 (pc2 := 9) hX (hK 0 0 0 (by decide) (by decide)) d_St_circle_6 rfl ?_
    refine fg_St_160 (pc2 := 12) hX (hK 8 0 0 (by decide) (by decide)) d_St_circle_9 rfl ?_
    refine sx_icmp_ge (tgt := 39) (pc2 := 15) hX d_St_circle_12 (by decide) rfl (fun hc1 => ?_) (fun hc1 => ?_)
    · replace h := sx_t h hc1
      refine sx_iload_n (pc2 := 40) hX 1 d_St_circle_39 rfl rfl rfl ?_
      exact sx_iret hX hE h d_St_circle_40
    · replace h := sx_f h hc1
      refine sx_aload_n (pc2 := 16) hX 0 d_St_circle_15 rfl rfl rfl ?_
      refine fg_St_35 (pc2 := 19) hX (hK 0 0 0 (by decide) (by decide)) d_St_circle_16 rfl ?_
      refine sx_iload_n (pc2 := 20) hX 2 d_St_circle_19 rfl rfl rfl ?_
      refine sx_iload_n (pc2 := 21) hX 2 d_St_circle_20 rfl rfl rfl ?_
      refine cl_St_232 (pc2 := 24) hX hK h (by decide) ⟨Nat.le_of_ble_eq_true rfl, Nat.le_of_ble_eq_true rfl⟩ (Nat.le_of_ble_eq_true rfl) d_St_circle_21 rfl (fun r2 σ2 τ2 h => ?_)
      refine sx_if_eq (tgt := 33) (pc2 := 27) hX d_St_circle_24 (by decide) rfl (fun hc3 => ?_) (fun hc3 => ?_)
      · replace h := sx_t h hc3
        exact g_St_circle_b33 hX hK hE  ih v1 v2 _ _ h
      · replace h := sx_f h hc3
        refine sx_iload_n (pc2 := 28) hX 1 d_St_circle_27 rfl rfl rfl ?_
        refine sx_iconst (v := 1) (pc2 := 29) hX d_St_circle_28 (by decide) rfl ?_
        refine sx_iload_n (pc2 := 30) hX 2 d_St_circle_29 rfl rfl rfl ?_
        refine sx_ishl (pc2 := 31) hX d_St_circle_30 rfl ?_
        refine sx_ior (pc2 := 32) hX d_St_circle_31 rfl ?_
        refine sx_istore_n (pc2 := 33) hX _ [(0, .ref (K.2.2.1 0 0 0)), (1, .int (v1 ||| (1 <<< (v2 &&& 31)))), (2, .int v2)] [1, 0, 2] d_St_circle_32 rfl (by decide) rfl rfl rfl ?_
        exact g_St_circle_b33 hX hK hE  ih (v1 ||| (1 <<< (v2 &&& 31))) v2 _ _ h
set_option maxRecDepth 100000 in
set_option maxHeartbeats 4000000 in
theorem c_St_circle {l : Launch} {K : sx_K} (hK : kx_C K)  (σ : sx_M) (τ : sx_L) (Q : Int32 → sx_M → Prop)  (h : wp_St_circle σ Q) : Met l y_St_circle (sx_wd y_St_circle prog_1_method_20_code 3 (some .int)) rm_St_circle (sx_Pc K [.ref (K.2.2.1 0 0 0)] σ τ) (sx_Qi K (fun r σ _ => Q r σ)) 0 0 (sx_A K) := by
  refine sx_met (by decide) (Nat.le_of_ble_eq_true rfl) (fun X hX hE => ?_)
  replace hX : sx_C X K prog_1_method_20_code 3 "SensorTree" (some .int) rm_St_circle l := hX
  show sx_G X K 3 0 [(0, .ref (K.2.2.1 0 0 0))] [] (sx_H K σ τ)
  unfold wp_St_circle at h
  refine sx_iconst (v := 0) (pc2 := 1) hX d_St_circle_0 (by decide) rfl ?_
  refine sx_istore_n (pc2 := 2) hX _ [(0, .ref (K.2.2.1 0 0 0)), (1, .int 0)] [1, 0] d_St_circle_1 rfl (by decide) rfl rfl rfl ?_
  refine sx_iconst (v := 0) (pc2 := 3) hX d_St_circle_2 (by decide) rfl ?_
  refine sx_istore_n (pc2 := 4) hX _ [(0, .ref (K.2.2.1 0 0 0)), (1, .int 0), (2, .int 0)] [1, 2, 0] d_St_circle_3 rfl (by decide) rfl rfl rfl ?_
  obtain ⟨f4, h⟩ := h
  exact g_St_circle_b4 hX hK hE   f4 0 0 _ _ h
def y_St_below : MethodName := ⟨"SensorTree", "below", "(I)I"⟩
theorem hy_St_below : y_St_below.cls ≠ "java/lang/invoke/MethodHandle" ∧ y_St_below.cls ≠ "java/lang/invoke/VarHandle" ∧ (parseMethodDescriptor y_St_below.desc).map (fun d => d.parameters.length) = some 1 := by decide +kernel
theorem d_St_below_0 : decode prog_1_method_21_code 0 = .ok (.aload_n 0, 1) := by decide +kernel
theorem d_St_below_1 : decode prog_1_method_21_code 1 = .ok (.getfield 26, 3) := by decide +kernel
theorem d_St_below_4 : decode prog_1_method_21_code 4 = .ok (.iload_n 1, 1) := by decide +kernel
theorem d_St_below_5 : decode prog_1_method_21_code 5 = .ok (.invokevirtual 144, 3) := by decide +kernel
theorem d_St_below_8 : decode prog_1_method_21_code 8 = .ok (.ifCond .ne 5, 3) := by decide +kernel
theorem d_St_below_11 : decode prog_1_method_21_code 11 = .ok (.iconst (-1), 1) := by decide +kernel
theorem d_St_below_12 : decode prog_1_method_21_code 12 = .ok (.ireturn, 1) := by decide +kernel
theorem d_St_below_13 : decode prog_1_method_21_code 13 = .ok (.iconst 0, 1) := by decide +kernel
theorem d_St_below_14 : decode prog_1_method_21_code 14 = .ok (.istore_n 2, 1) := by decide +kernel
theorem d_St_below_15 : decode prog_1_method_21_code 15 = .ok (.iconst 0, 1) := by decide +kernel
theorem d_St_below_16 : decode prog_1_method_21_code 16 = .ok (.istore_n 3, 1) := by decide +kernel
theorem d_St_below_17 : decode prog_1_method_21_code 17 = .ok (.iload_n 3, 1) := by decide +kernel
theorem d_St_below_18 : decode prog_1_method_21_code 18 = .ok (.aload_n 0, 1) := by decide +kernel
theorem d_St_below_19 : decode prog_1_method_21_code 19 = .ok (.getfield 26, 3) := by decide +kernel
theorem d_St_below_22 : decode prog_1_method_21_code 22 = .ok (.getfield 160, 3) := by decide +kernel
theorem d_St_below_25 : decode prog_1_method_21_code 25 = .ok (.if_icmp .ge 32, 3) := by decide +kernel
theorem d_St_below_28 : decode prog_1_method_21_code 28 = .ok (.iload_n 3, 1) := by decide +kernel
theorem d_St_below_29 : decode prog_1_method_21_code 29 = .ok (.iload_n 1, 1) := by decide +kernel
theorem d_St_below_30 : decode prog_1_method_21_code 30 = .ok (.if_icmp .eq 21, 3) := by decide +kernel
theorem d_St_below_33 : decode prog_1_method_21_code 33 = .ok (.aload_n 0, 1) := by decide +kernel
theorem d_St_below_34 : decode prog_1_method_21_code 34 = .ok (.getfield 35, 3) := by decide +kernel
theorem d_St_below_37 : decode prog_1_method_21_code 37 = .ok (.iload_n 3, 1) := by decide +kernel
theorem d_St_below_38 : decode prog_1_method_21_code 38 = .ok (.iload_n 1, 1) := by decide +kernel
theorem d_St_below_39 : decode prog_1_method_21_code 39 = .ok (.invokevirtual 232, 3) := by decide +kernel
theorem d_St_below_42 : decode prog_1_method_21_code 42 = .ok (.ifCond .eq 9, 3) := by decide +kernel
theorem d_St_below_45 : decode prog_1_method_21_code 45 = .ok (.iload_n 2, 1) := by decide +kernel
theorem d_St_below_46 : decode prog_1_method_21_code 46 = .ok (.iconst 1, 1) := by decide +kernel
theorem d_St_below_47 : decode prog_1_method_21_code 47 = .ok (.iload_n 3, 1) := by decide +kernel
theorem d_St_below_48 : decode prog_1_method_21_code 48 = .ok (.ishl, 1) := by decide +kernel
theorem d_St_below_49 : decode prog_1_method_21_code 49 = .ok (.ior, 1) := by decide +kernel
theorem d_St_below_50 : decode prog_1_method_21_code 50 = .ok (.istore_n 2, 1) := by decide +kernel
theorem d_St_below_51 : decode prog_1_method_21_code 51 = .ok (.iinc 3 1, 3) := by decide +kernel
theorem d_St_below_54 : decode prog_1_method_21_code 54 = .ok (.goto (-37), 3) := by decide +kernel
theorem d_St_below_57 : decode prog_1_method_21_code 57 = .ok (.iload_n 2, 1) := by decide +kernel
theorem d_St_below_58 : decode prog_1_method_21_code 58 = .ok (.ireturn, 1) := by decide +kernel
def wp_St_below_b51  (k17 : Int32 → Int32 → Int32 → sx_M → Prop) (Q : Int32 → sx_M → Prop) (v1 : Int32) (v2 : Int32) (v3 : Int32) (σ : sx_M) : Prop := k17 v1 v2 (v3 + 1) σ
def wp_St_below_b17   (Q : Int32 → sx_M → Prop) : Nat → Int32 → Int32 → Int32 → sx_M → Prop
  | 0, _, _, _, _ => False
  | f + 1, v1, v2, v3, σ => if σ 8 0 0 0 ≤ v3 then (Q v2 σ) else (if v3 = v1 then (wp_St_below_b51 (wp_St_below_b17 Q f) Q v1 v2 v3 σ) else (wp_Ne_comesTo 0 v3 v1 σ (fun r3 σ3 => if r3 = 0 then (wp_St_below_b51 (wp_St_below_b17 Q f) Q v1 v2 v3 σ3) else (wp_St_below_b51 (wp_St_below_b17 Q f) Q v1 (v2 ||| (1 <<< (v3 &&& 31))) v3 σ3))))
def wp_St_below (x1 : Int32) (σ : sx_M) (Q : Int32 → sx_M → Prop) : Prop := wp_Pl_isPost 0 x1 σ (fun r5 σ5 => if r5 = 0 then (Q (-1) σ5) else (∃ f17, wp_St_below_b17 Q f17 x1 0 0 σ5))
abbrev rm_St_below : Room := { frames := 2, cells := 0, slots := 0, locals := 45 }
set_option maxRecDepth 100000 in
set_option maxHeartbeats 4000000 in
theorem g_St_below_b51 {l : Launch} {K : sx_K} {X : sx_T}  {k17 : Int32 → Int32 → Int32 → sx_M → Prop} {Q : Int32 → sx_M → Prop} (hX : sx_C X K prog_1_method_21_code 4 "SensorTree" (some .int) rm_St_below l) (hK : kx_C K) (hE : sx_E X K (sx_Qi K (fun r σ _ => Q r σ)))  (hk17 : ∀ (v1 : Int32) (v2 : Int32) (v3 : Int32) (σ : sx_M) (τ : sx_L) , k17 v1 v2 v3 σ → sx_G X K 4 17 [(0, .ref (K.2.2.1 0 0 0)), (1, .int v1), (2, .int v2), (3, .int v3)] [] (sx_H K σ τ)) (v1 : Int32) (v2 : Int32) (v3 : Int32) (σ : sx_M) (τ : sx_L)  (h : wp_St_below_b51 k17 Q  v1 v2 v3 σ) : sx_G X K 4 51 [(0, .ref (K.2.2.1 0 0 0)), (1, .int v1), (2, .int v2), (3, .int v3)] [] (sx_H K σ τ) := by
  unfold wp_St_below_b51 at h
  refine sx_iinc (pc2 := 54) hX 3 _ [(0, .ref (K.2.2.1 0 0 0)), (1, .int v1), (2, .int v2), (3, .int (v3 + 1))] [1, 2, 3, 0] d_St_below_51 rfl (v3 + 1) rfl (by decide) rfl rfl rfl ?_
  refine sx_goto (tgt := 17) hX d_St_below_54 (by decide) ?_
  exact hk17 v1 v2 (v3 + 1) _ _ h
set_option maxRecDepth 100000 in
set_option maxHeartbeats 4000000 in
theorem g_St_below_b17 {l : Launch} {K : sx_K} {X : sx_T}   {Q : Int32 → sx_M → Prop} (hX : sx_C X K prog_1_method_21_code 4 "SensorTree" (some .int) rm_St_below l) (hK : kx_C K) (hE : sx_E X K (sx_Qi K (fun r σ _ => Q r σ)))  : ∀ (f : Nat) (v1 : Int32) (v2 : Int32) (v3 : Int32) (σ : sx_M) (τ : sx_L) , wp_St_below_b17 Q f v1 v2 v3 σ → sx_G X K 4 17 [(0, .ref (K.2.2.1 0 0 0)), (1, .int v1), (2, .int v2), (3, .int v3)] [] (sx_H K σ τ) := by
  intro f
  induction f with
  | zero => intro v1 v2 v3 σ τ h; exact (show False from h).elim
  | succ f ih =>
    intro v1 v2 v3 σ τ h
    rw [wp_St_below_b17] at h
    refine sx_iload_n (pc2 := 18) hX 3 d_St_below_17 rfl rfl rfl ?_
    refine sx_aload_n (pc2 := 19) hX 0 d_St_below_18 rfl rfl rfl ?_
    refine fg_St_26 (pc2 := 22) hX (hK 0 0 0 (by decide) (by decide)) d_St_below_19 rfl ?_
    refine fg_St_160 (pc2 := 25) hX (hK 8 0 0 (by decide) (by decide)) d_St_below_22 rfl ?_
    refine sx_icmp_ge (tgt := 57) (pc2 := 28) hX d_St_below_25 (by decide) rfl (fun hc1 => ?_) (fun hc1 => ?_)
    · replace h := sx_t h hc1
      refine sx_iload_n (pc2 := 58) hX 2 d_St_below_57 rfl rfl rfl ?_
      exact sx_iret hX hE h d_St_below_58
    · replace h := sx_f h hc1
      refine sx_iload_n (pc2 := 29) hX 3 d_St_below_28 rfl rfl rfl ?_
      refine sx_iload_n (pc2 := 30) hX 1 d_St_below_29 rfl rfl rfl ?_
      refine sx_icmp_eq (tgt := 51) (pc2 := 33) hX d_St_below_30 (by decide) rfl (fun hc2 => ?_) (fun hc2 => ?_)
      · replace h := sx_t h hc2
        exact g_St_below_b51 hX hK hE  ih v1 v2 v3 _ _ h
      · replace h := sx_f h hc2
        refine sx_aload_n (pc2 := 34) hX 0 d_St_below_33 rfl rfl rfl ?_
        refine fg_St_35 (pc2 := 37) hX (hK 0 0 0 (by decide) (by decide)) d_St_below_34 rfl ?_
        refine sx_iload_n (pc2 := 38) hX 3 d_St_below_37 rfl rfl rfl ?_
        refine sx_iload_n (pc2 := 39) hX 1 d_St_below_38 rfl rfl rfl ?_
        refine cl_St_232 (pc2 := 42) hX hK h (by decide) ⟨Nat.le_of_ble_eq_true rfl, Nat.le_of_ble_eq_true rfl⟩ (Nat.le_of_ble_eq_true rfl) d_St_below_39 rfl (fun r3 σ3 τ3 h => ?_)
        refine sx_if_eq (tgt := 51) (pc2 := 45) hX d_St_below_42 (by decide) rfl (fun hc4 => ?_) (fun hc4 => ?_)
        · replace h := sx_t h hc4
          exact g_St_below_b51 hX hK hE  ih v1 v2 v3 _ _ h
        · replace h := sx_f h hc4
          refine sx_iload_n (pc2 := 46) hX 2 d_St_below_45 rfl rfl rfl ?_
          refine sx_iconst (v := 1) (pc2 := 47) hX d_St_below_46 (by decide) rfl ?_
          refine sx_iload_n (pc2 := 48) hX 3 d_St_below_47 rfl rfl rfl ?_
          refine sx_ishl (pc2 := 49) hX d_St_below_48 rfl ?_
          refine sx_ior (pc2 := 50) hX d_St_below_49 rfl ?_
          refine sx_istore_n (pc2 := 51) hX _ [(0, .ref (K.2.2.1 0 0 0)), (1, .int v1), (2, .int (v2 ||| (1 <<< (v3 &&& 31)))), (3, .int v3)] [1, 2, 0, 3] d_St_below_50 rfl (by decide) rfl rfl rfl ?_
          exact g_St_below_b51 hX hK hE  ih v1 (v2 ||| (1 <<< (v3 &&& 31))) v3 _ _ h
set_option maxRecDepth 100000 in
set_option maxHeartbeats 4000000 in
theorem c_St_below {l : Launch} {K : sx_K} (hK : kx_C K) (x1 : Int32) (σ : sx_M) (τ : sx_L) (Q : Int32 → sx_M → Prop)  (h : wp_St_below x1 σ Q) : Met l y_St_below (sx_wd y_St_below prog_1_method_21_code 4 (some .int)) rm_St_below (sx_Pc K [.ref (K.2.2.1 0 0 0), .int x1] σ τ) (sx_Qi K (fun r σ _ => Q r σ)) 0 0 (sx_A K) := by
  refine sx_met (by decide) (Nat.le_of_ble_eq_true rfl) (fun X hX hE => ?_)
  replace hX : sx_C X K prog_1_method_21_code 4 "SensorTree" (some .int) rm_St_below l := hX
  show sx_G X K 4 0 [(0, .ref (K.2.2.1 0 0 0)), (1, .int x1)] [] (sx_H K σ τ)
  unfold wp_St_below at h
  refine sx_aload_n (pc2 := 1) hX 0 d_St_below_0 rfl rfl rfl ?_
  refine fg_St_26 (pc2 := 4) hX (hK 0 0 0 (by decide) (by decide)) d_St_below_1 rfl ?_
  refine sx_iload_n (pc2 := 5) hX 1 d_St_below_4 rfl rfl rfl ?_
  refine cl_St_144 (pc2 := 8) hX hK h (by decide) ⟨Nat.le_of_ble_eq_true rfl, Nat.le_of_ble_eq_true rfl⟩ (Nat.le_of_ble_eq_true rfl) d_St_below_5 rfl (fun r5 σ5 τ5 h => ?_)
  refine sx_if_ne (tgt := 13) (pc2 := 11) hX d_St_below_8 (by decide) rfl (fun hc6 => ?_) (fun hc6 => ?_)
  · replace h := sx_f h hc6
    refine sx_iconst (v := 0) (pc2 := 14) hX d_St_below_13 (by decide) rfl ?_
    refine sx_istore_n (pc2 := 15) hX _ [(0, .ref (K.2.2.1 0 0 0)), (1, .int x1), (2, .int 0)] [1, 2, 0] d_St_below_14 rfl (by decide) rfl rfl rfl ?_
    refine sx_iconst (v := 0) (pc2 := 16) hX d_St_below_15 (by decide) rfl ?_
    refine sx_istore_n (pc2 := 17) hX _ [(0, .ref (K.2.2.1 0 0 0)), (1, .int x1), (2, .int 0), (3, .int 0)] [1, 2, 3, 0] d_St_below_16 rfl (by decide) rfl rfl rfl ?_
    obtain ⟨f17, h⟩ := h
    exact g_St_below_b17 hX hK hE   f17 x1 0 0 _ _ h
  · replace h := sx_t h hc6
    refine sx_iconst (v := (-1)) (pc2 := 12) hX d_St_below_11 (by decide) rfl ?_
    exact sx_iret hX hE h d_St_below_12
def y_St_way : MethodName := ⟨"SensorTree", "way", "(II)I"⟩
theorem hy_St_way : y_St_way.cls ≠ "java/lang/invoke/MethodHandle" ∧ y_St_way.cls ≠ "java/lang/invoke/VarHandle" ∧ (parseMethodDescriptor y_St_way.desc).map (fun d => d.parameters.length) = some 2 := by decide +kernel
theorem d_St_way_0 : decode prog_1_method_22_code 0 = .ok (.aload_n 0, 1) := by decide +kernel
theorem d_St_way_1 : decode prog_1_method_22_code 1 = .ok (.getfield 26, 3) := by decide +kernel
theorem d_St_way_4 : decode prog_1_method_22_code 4 = .ok (.iload_n 1, 1) := by decide +kernel
theorem d_St_way_5 : decode prog_1_method_22_code 5 = .ok (.invokevirtual 144, 3) := by decide +kernel
theorem d_St_way_8 : decode prog_1_method_22_code 8 = .ok (.ifCond .eq 13, 3) := by decide +kernel
theorem d_St_way_11 : decode prog_1_method_22_code 11 = .ok (.iload_n 2, 1) := by decide +kernel
theorem d_St_way_12 : decode prog_1_method_22_code 12 = .ok (.ifCond .lt 9, 3) := by decide +kernel
theorem d_St_way_15 : decode prog_1_method_22_code 15 = .ok (.iload_n 2, 1) := by decide +kernel
theorem d_St_way_16 : decode prog_1_method_22_code 16 = .ok (.bipush 20, 2) := by decide +kernel
theorem d_St_way_18 : decode prog_1_method_22_code 18 = .ok (.if_icmp .le 5, 3) := by decide +kernel
theorem d_St_way_21 : decode prog_1_method_22_code 21 = .ok (.iconst (-1), 1) := by decide +kernel
theorem d_St_way_22 : decode prog_1_method_22_code 22 = .ok (.ireturn, 1) := by decide +kernel
theorem d_St_way_23 : decode prog_1_method_22_code 23 = .ok (.iload_n 1, 1) := by decide +kernel
theorem d_St_way_24 : decode prog_1_method_22_code 24 = .ok (.istore_n 3, 1) := by decide +kernel
theorem d_St_way_25 : decode prog_1_method_22_code 25 = .ok (.iconst 0, 1) := by decide +kernel
theorem d_St_way_26 : decode prog_1_method_22_code 26 = .ok (.istore 4, 2) := by decide +kernel
theorem d_St_way_28 : decode prog_1_method_22_code 28 = .ok (.iload 4, 2) := by decide +kernel
theorem d_St_way_30 : decode prog_1_method_22_code 30 = .ok (.iload_n 2, 1) := by decide +kernel
theorem d_St_way_31 : decode prog_1_method_22_code 31 = .ok (.if_icmp .ge 35, 3) := by decide +kernel
theorem d_St_way_34 : decode prog_1_method_22_code 34 = .ok (.aload_n 0, 1) := by decide +kernel
theorem d_St_way_35 : decode prog_1_method_22_code 35 = .ok (.getfield 35, 3) := by decide +kernel
theorem d_St_way_38 : decode prog_1_method_22_code 38 = .ok (.getfield 147, 3) := by decide +kernel
theorem d_St_way_41 : decode prog_1_method_22_code 41 = .ok (.iload_n 3, 1) := by decide +kernel
theorem d_St_way_42 : decode prog_1_method_22_code 42 = .ok (.aaload, 1) := by decide +kernel
theorem d_St_way_43 : decode prog_1_method_22_code 43 = .ok (.getfield 235, 3) := by decide +kernel
theorem d_St_way_46 : decode prog_1_method_22_code 46 = .ok (.istore_n 3, 1) := by decide +kernel
theorem d_St_way_47 : decode prog_1_method_22_code 47 = .ok (.aload_n 0, 1) := by decide +kernel
theorem d_St_way_48 : decode prog_1_method_22_code 48 = .ok (.getfield 26, 3) := by decide +kernel
theorem d_St_way_51 : decode prog_1_method_22_code 51 = .ok (.iload_n 3, 1) := by decide +kernel
theorem d_St_way_52 : decode prog_1_method_22_code 52 = .ok (.invokevirtual 144, 3) := by decide +kernel
theorem d_St_way_55 : decode prog_1_method_22_code 55 = .ok (.ifCond .ne 5, 3) := by decide +kernel
theorem d_St_way_58 : decode prog_1_method_22_code 58 = .ok (.iconst (-1), 1) := by decide +kernel
theorem d_St_way_59 : decode prog_1_method_22_code 59 = .ok (.ireturn, 1) := by decide +kernel
theorem d_St_way_60 : decode prog_1_method_22_code 60 = .ok (.iinc 4 1, 3) := by decide +kernel
theorem d_St_way_63 : decode prog_1_method_22_code 63 = .ok (.goto (-35), 3) := by decide +kernel
theorem d_St_way_66 : decode prog_1_method_22_code 66 = .ok (.iload_n 3, 1) := by decide +kernel
theorem d_St_way_67 : decode prog_1_method_22_code 67 = .ok (.ireturn, 1) := by decide +kernel
def wp_St_way_b28   (Q : Int32 → sx_M → Prop) : Nat → Int32 → Int32 → Int32 → sx_M → Prop
  | 0, _, _, _, _ => False
  | f + 1, v2, v3, v4, σ => if v2 ≤ v4 then (Q v3 σ) else (vp_in v3 7 ∧ (wp_Pl_isPost 0 (σ 27 0 v3.toNatClampNeg 3) σ (fun r3 σ3 => if r3 = 0 then (Q (-1) σ3) else (wp_St_way_b28 Q f v2 (σ 27 0 v3.toNatClampNeg 3) (v4 + 1) σ3))))
def wp_St_way_b21   (Q : Int32 → sx_M → Prop)  (σ : sx_M) : Prop := Q (-1) σ
def wp_St_way (x1 : Int32) (x2 : Int32) (σ : sx_M) (Q : Int32 → sx_M → Prop) : Prop := wp_Pl_isPost 0 x1 σ (fun r5 σ5 => if r5 = 0 then (wp_St_way_b21 Q σ5) else (if x2 < 0 then (wp_St_way_b21 Q σ5) else (if x2 ≤ 20 then (∃ f28, wp_St_way_b28 Q f28 x2 x1 0 σ5) else (wp_St_way_b21 Q σ5))))
abbrev rm_St_way : Room := { frames := 1, cells := 0, slots := 0, locals := 21 }
set_option maxRecDepth 100000 in
set_option maxHeartbeats 4000000 in
theorem g_St_way_b28 {l : Launch} {K : sx_K} {X : sx_T}   {Q : Int32 → sx_M → Prop} (hX : sx_C X K prog_1_method_22_code 5 "SensorTree" (some .int) rm_St_way l) (hK : kx_C K) (hE : sx_E X K (sx_Qi K (fun r σ _ => Q r σ)))  : ∀ (f : Nat) (v2 : Int32) (v3 : Int32) (v4 : Int32) (σ : sx_M) (τ : sx_L) , wp_St_way_b28 Q f v2 v3 v4 σ → sx_G X K 5 28 [(0, .ref (K.2.2.1 0 0 0)), (2, .int v2), (3, .int v3), (4, .int v4)] [] (sx_H K σ τ) := by
  intro f
  induction f with
  | zero => intro v2 v3 v4 σ τ h; exact (show False from h).elim
  | succ f ih =>
    intro v2 v3 v4 σ τ h
    rw [wp_St_way_b28] at h
    refine sx_iload (pc2 := 30) hX 3 d_St_way_28 rfl rfl ?_
    refine sx_iload_n (pc2 := 31) hX 1 d_St_way_30 rfl rfl rfl ?_
    refine sx_icmp_ge (tgt := 66) (pc2 := 34) hX d_St_way_31 (by decide) rfl (fun hc1 => ?_) (fun hc1 => ?_)
    · replace h := sx_t h hc1
      refine sx_iload_n (pc2 := 67) hX 2 d_St_way_66 rfl rfl rfl ?_
      exact sx_iret hX hE h d_St_way_67
    · replace h := sx_f h hc1
      refine sx_aload_n (pc2 := 35) hX 0 d_St_way_34 rfl rfl rfl ?_
      refine fg_St_35 (pc2 := 38) hX (hK 0 0 0 (by decide) (by decide)) d_St_way_35 rfl ?_
      refine fg_St_147 (pc2 := 41) hX (hK 16 0 0 (by decide) (by decide)) d_St_way_38 rfl ?_
      refine sx_iload_n (pc2 := 42) hX 2 d_St_way_41 rfl rfl rfl ?_
      obtain ⟨hc2, h⟩ := h
      refine sx_aald (a := K.2.2.1 27 0 v3.toNatClampNeg) (pc2 := 43) hX (hK 17 0 0 (by decide) (by decide)) 4 rfl rfl rfl hc2 d_St_way_42 rfl ?_
      refine fg_St_235 (pc2 := 46) hX (hK 27 0 v3.toNatClampNeg (by decide) (sx_lt hc2)) d_St_way_43 rfl ?_
      refine sx_istore_n (pc2 := 47) hX _ [(0, .ref (K.2.2.1 0 0 0)), (2, .int v2), (3, .int (σ 27 0 v3.toNatClampNeg 3)), (4, .int v4)] [1, 2, 0, 3] d_St_way_46 rfl (by decide) rfl rfl rfl ?_
      refine sx_aload_n (pc2 := 48) hX 0 d_St_way_47 rfl rfl rfl ?_
      refine fg_St_26 (pc2 := 51) hX (hK 0 0 0 (by decide) (by decide)) d_St_way_48 rfl ?_
      refine sx_iload_n (pc2 := 52) hX 2 d_St_way_51 rfl rfl rfl ?_
      refine cl_St_144 (pc2 := 55) hX hK h (by decide) ⟨Nat.le_of_ble_eq_true rfl, Nat.le_of_ble_eq_true rfl⟩ (Nat.le_of_ble_eq_true rfl) d_St_way_52 rfl (fun r3 σ3 τ3 h => ?_)
      refine sx_if_ne (tgt := 60) (pc2 := 58) hX d_St_way_55 (by decide) rfl (fun hc4 => ?_) (fun hc4 => ?_)
      · replace h := sx_f h hc4
        refine sx_iinc (pc2 := 63) hX 3 _ [(0, .ref (K.2.2.1 0 0 0)), (2, .int v2), (3, .int (σ 27 0 v3.toNatClampNeg 3)), (4, .int (v4 + 1))] [1, 2, 3, 0] d_St_way_60 rfl (v4 + 1) rfl (by decide) rfl rfl rfl ?_
        refine sx_goto (tgt := 28) hX d_St_way_63 (by decide) ?_
        exact ih v2 (σ 27 0 v3.toNatClampNeg 3) (v4 + 1) _ _ h
      · replace h := sx_t h hc4
        refine sx_iconst (v := (-1)) (pc2 := 59) hX d_St_way_58 (by decide) rfl ?_
        exact sx_iret hX hE h d_St_way_59
set_option maxRecDepth 100000 in
set_option maxHeartbeats 4000000 in
theorem g_St_way_b21 {l : Launch} {K : sx_K} {X : sx_T}   {Q : Int32 → sx_M → Prop} (hX : sx_C X K prog_1_method_22_code 5 "SensorTree" (some .int) rm_St_way l) (hK : kx_C K) (hE : sx_E X K (sx_Qi K (fun r σ _ => Q r σ)))   (σ : sx_M) (τ : sx_L)  (h : wp_St_way_b21 Q  σ) : sx_G X K 5 21 [] [] (sx_H K σ τ) := by
  unfold wp_St_way_b21 at h
  refine sx_iconst (v := (-1)) (pc2 := 22) hX d_St_way_21 (by decide) rfl ?_
  exact sx_iret hX hE h d_St_way_22
set_option maxRecDepth 100000 in
set_option maxHeartbeats 4000000 in
theorem c_St_way {l : Launch} {K : sx_K} (hK : kx_C K) (x1 : Int32) (x2 : Int32) (σ : sx_M) (τ : sx_L) (Q : Int32 → sx_M → Prop)  (h : wp_St_way x1 x2 σ Q) : Met l y_St_way (sx_wd y_St_way prog_1_method_22_code 5 (some .int)) rm_St_way (sx_Pc K [.ref (K.2.2.1 0 0 0), .int x1, .int x2] σ τ) (sx_Qi K (fun r σ _ => Q r σ)) 0 0 (sx_A K) := by
  refine sx_met (by decide) (Nat.le_of_ble_eq_true rfl) (fun X hX hE => ?_)
  replace hX : sx_C X K prog_1_method_22_code 5 "SensorTree" (some .int) rm_St_way l := hX
  show sx_G X K 5 0 [(0, .ref (K.2.2.1 0 0 0)), (1, .int x1), (2, .int x2)] [] (sx_H K σ τ)
  unfold wp_St_way at h
  refine sx_aload_n (pc2 := 1) hX 0 d_St_way_0 rfl rfl rfl ?_
  refine fg_St_26 (pc2 := 4) hX (hK 0 0 0 (by decide) (by decide)) d_St_way_1 rfl ?_
  refine sx_iload_n (pc2 := 5) hX 1 d_St_way_4 rfl rfl rfl ?_
  refine cl_St_144 (pc2 := 8) hX hK h (by decide) ⟨Nat.le_of_ble_eq_true rfl, Nat.le_of_ble_eq_true rfl⟩ (Nat.le_of_ble_eq_true rfl) d_St_way_5 rfl (fun r5 σ5 τ5 h => ?_)
  refine sx_if_eq (tgt := 21) (pc2 := 11) hX d_St_way_8 (by decide) rfl (fun hc6 => ?_) (fun hc6 => ?_)
  · replace h := sx_t h hc6
    refine sx_sub [] [] rfl ?_
    exact g_St_way_b21 hX hK hE   _ _ h
  · replace h := sx_f h hc6
    refine sx_iload_n (pc2 := 12) hX 2 d_St_way_11 rfl rfl rfl ?_
    refine sx_if_lt (tgt := 21) (pc2 := 15) hX d_St_way_12 (by decide) rfl (fun hc7 => ?_) (fun hc7 => ?_)
    · replace h := sx_t h hc7
      refine sx_sub [] [] rfl ?_
      exact g_St_way_b21 hX hK hE   _ _ h
    · replace h := sx_f h hc7
      refine sx_iload_n (pc2 := 16) hX 2 d_St_way_15 rfl rfl rfl ?_
      refine sx_bipush (v := 20) (pc2 := 18) hX d_St_way_16 (by decide) rfl ?_
      refine sx_icmp_le (tgt := 23) (pc2 := 21) hX d_St_way_18 (by decide) rfl (fun hc8 => ?_) (fun hc8 => ?_)
      · replace h := sx_t h hc8
        refine sx_iload_n (pc2 := 24) hX 1 d_St_way_23 rfl rfl rfl ?_
        refine sx_istore_n (pc2 := 25) hX _ [(0, .ref (K.2.2.1 0 0 0)), (1, .int x1), (2, .int x2), (3, .int x1)] [1, 2, 3, 0] d_St_way_24 rfl (by decide) rfl rfl rfl ?_
        refine sx_iconst (v := 0) (pc2 := 26) hX d_St_way_25 (by decide) rfl ?_
        refine sx_istore (pc2 := 28) hX _ [(0, .ref (K.2.2.1 0 0 0)), (1, .int x1), (2, .int x2), (3, .int x1), (4, .int 0)] [1, 2, 3, 4, 0] d_St_way_26 (by decide) rfl rfl rfl ?_
        refine sx_sub [(0, .ref (K.2.2.1 0 0 0)), (2, .int x2), (3, .int x1), (4, .int 0)] [0, 2, 3, 4] rfl ?_
        obtain ⟨f28, h⟩ := h
        exact g_St_way_b28 hX hK hE   f28 x2 x1 0 _ _ h
      · replace h := sx_f h hc8
        refine sx_sub [] [] rfl ?_
        exact g_St_way_b21 hX hK hE   _ _ h
def y_St_would : MethodName := ⟨"SensorTree", "would", "(III)I"⟩
theorem hy_St_would : y_St_would.cls ≠ "java/lang/invoke/MethodHandle" ∧ y_St_would.cls ≠ "java/lang/invoke/VarHandle" ∧ (parseMethodDescriptor y_St_would.desc).map (fun d => d.parameters.length) = some 3 := by decide +kernel
theorem d_St_would_0 : decode prog_1_method_23_code 0 = .ok (.aload_n 0, 1) := by decide +kernel
theorem d_St_would_1 : decode prog_1_method_23_code 1 = .ok (.iload_n 1, 1) := by decide +kernel
theorem d_St_would_2 : decode prog_1_method_23_code 2 = .ok (.iload_n 2, 1) := by decide +kernel
theorem d_St_would_3 : decode prog_1_method_23_code 3 = .ok (.invokevirtual 168, 3) := by decide +kernel
theorem d_St_would_6 : decode prog_1_method_23_code 6 = .ok (.ifCond .ne 5, 3) := by decide +kernel
theorem d_St_would_9 : decode prog_1_method_23_code 9 = .ok (.iconst (-1), 1) := by decide +kernel
theorem d_St_would_10 : decode prog_1_method_23_code 10 = .ok (.ireturn, 1) := by decide +kernel
theorem d_St_would_11 : decode prog_1_method_23_code 11 = .ok (.aload_n 0, 1) := by decide +kernel
theorem d_St_would_12 : decode prog_1_method_23_code 12 = .ok (.getfield 64, 3) := by decide +kernel
theorem d_St_would_15 : decode prog_1_method_23_code 15 = .ok (.iload_n 1, 1) := by decide +kernel
theorem d_St_would_16 : decode prog_1_method_23_code 16 = .ok (.iload_n 2, 1) := by decide +kernel
theorem d_St_would_17 : decode prog_1_method_23_code 17 = .ok (.invokevirtual 172, 3) := by decide +kernel
theorem d_St_would_20 : decode prog_1_method_23_code 20 = .ok (.iload_n 3, 1) := by decide +kernel
theorem d_St_would_21 : decode prog_1_method_23_code 21 = .ok (.tableswitch 51 0 2 #[27, 35, 43], 27) := by decide +kernel
theorem d_St_would_48 : decode prog_1_method_23_code 48 = .ok (.aload_n 0, 1) := by decide +kernel
theorem d_St_would_49 : decode prog_1_method_23_code 49 = .ok (.getfield 64, 3) := by decide +kernel
theorem d_St_would_52 : decode prog_1_method_23_code 52 = .ok (.getfield 182, 3) := by decide +kernel
theorem d_St_would_55 : decode prog_1_method_23_code 55 = .ok (.ireturn, 1) := by decide +kernel
theorem d_St_would_56 : decode prog_1_method_23_code 56 = .ok (.aload_n 0, 1) := by decide +kernel
theorem d_St_would_57 : decode prog_1_method_23_code 57 = .ok (.getfield 64, 3) := by decide +kernel
theorem d_St_would_60 : decode prog_1_method_23_code 60 = .ok (.getfield 238, 3) := by decide +kernel
theorem d_St_would_63 : decode prog_1_method_23_code 63 = .ok (.ireturn, 1) := by decide +kernel
theorem d_St_would_64 : decode prog_1_method_23_code 64 = .ok (.aload_n 0, 1) := by decide +kernel
theorem d_St_would_65 : decode prog_1_method_23_code 65 = .ok (.getfield 64, 3) := by decide +kernel
theorem d_St_would_68 : decode prog_1_method_23_code 68 = .ok (.getfield 176, 3) := by decide +kernel
theorem d_St_would_71 : decode prog_1_method_23_code 71 = .ok (.ireturn, 1) := by decide +kernel
theorem d_St_would_72 : decode prog_1_method_23_code 72 = .ok (.iconst (-1), 1) := by decide +kernel
theorem d_St_would_73 : decode prog_1_method_23_code 73 = .ok (.ireturn, 1) := by decide +kernel
def wp_St_would (x1 : Int32) (x2 : Int32) (x3 : Int32) (σ : sx_M) (Q : Int32 → sx_M → Prop) : Prop := wp_St_canSend x1 x2 σ (fun r1 σ1 => if r1 = 0 then (Q (-1) σ1) else (wp_Jo_go x1 x2 σ1 (fun σ3 => if x3 = 0 then (Q (σ3 34 0 0 5) σ3) else (if x3 = 1 then (Q (σ3 34 0 0 2) σ3) else (if x3 = 2 then (Q (σ3 34 0 0 4) σ3) else (Q (-1) σ3))))))
abbrev rm_St_would : Room := { frames := 3, cells := 0, slots := 0, locals := 75 }
set_option maxRecDepth 100000 in
set_option maxHeartbeats 4000000 in
theorem c_St_would {l : Launch} {K : sx_K} (hK : kx_C K) (x1 : Int32) (x2 : Int32) (x3 : Int32) (σ : sx_M) (τ : sx_L) (Q : Int32 → sx_M → Prop)  (h : wp_St_would x1 x2 x3 σ Q) : Met l y_St_would (sx_wd y_St_would prog_1_method_23_code 4 (some .int)) rm_St_would (sx_Pc K [.ref (K.2.2.1 0 0 0), .int x1, .int x2, .int x3] σ τ) (sx_Qi K (fun r σ _ => Q r σ)) 0 0 (sx_A K) := by
  refine sx_met (by decide) (Nat.le_of_ble_eq_true rfl) (fun X hX hE => ?_)
  replace hX : sx_C X K prog_1_method_23_code 4 "SensorTree" (some .int) rm_St_would l := hX
  show sx_G X K 4 0 [(0, .ref (K.2.2.1 0 0 0)), (1, .int x1), (2, .int x2), (3, .int x3)] [] (sx_H K σ τ)
  unfold wp_St_would at h
  refine sx_aload_n (pc2 := 1) hX 0 d_St_would_0 rfl rfl rfl ?_
  refine sx_iload_n (pc2 := 2) hX 1 d_St_would_1 rfl rfl rfl ?_
  refine sx_iload_n (pc2 := 3) hX 2 d_St_would_2 rfl rfl rfl ?_
  refine cl_St_168 (pc2 := 6) hX hK h  ⟨Nat.le_of_ble_eq_true rfl, Nat.le_of_ble_eq_true rfl⟩ (Nat.le_of_ble_eq_true rfl) d_St_would_3 rfl (fun r1 σ1 τ1 h => ?_)
  refine sx_if_ne (tgt := 11) (pc2 := 9) hX d_St_would_6 (by decide) rfl (fun hc2 => ?_) (fun hc2 => ?_)
  · replace h := sx_f h hc2
    refine sx_aload_n (pc2 := 12) hX 0 d_St_would_11 rfl rfl rfl ?_
    refine fg_St_64 (pc2 := 15) hX (hK 0 0 0 (by decide) (by decide)) d_St_would_12 rfl ?_
    refine sx_iload_n (pc2 := 16) hX 1 d_St_would_15 rfl rfl rfl ?_
    refine sx_iload_n (pc2 := 17) hX 2 d_St_would_16 rfl rfl rfl ?_
    refine cl_St_172 (pc2 := 20) hX hK h  ⟨Nat.le_of_ble_eq_true rfl, Nat.le_of_ble_eq_true rfl⟩ (Nat.le_of_ble_eq_true rfl) d_St_would_17 rfl (fun σ3 τ3 h => ?_)
    refine sx_iload_n (pc2 := 21) hX 3 d_St_would_20 rfl rfl rfl ?_
    by_cases hc4 : x3 = 0
    · replace h := sx_t h hc4
      refine sx_swi (tgt := 48) hX 0 hc4 d_St_would_21 (by decide) (by decide) rfl (by decide) ?_
      refine sx_aload_n (pc2 := 49) hX 0 d_St_would_48 rfl rfl rfl ?_
      refine fg_St_64 (pc2 := 52) hX (hK 0 0 0 (by decide) (by decide)) d_St_would_49 rfl ?_
      refine fg_St_182 (pc2 := 55) hX (hK 34 0 0 (by decide) (by decide)) d_St_would_52 rfl ?_
      exact sx_iret hX hE h d_St_would_55
    · replace h := sx_f h hc4
      by_cases hc5 : x3 = 1
      · replace h := sx_t h hc5
        refine sx_swi (tgt := 56) hX 1 hc5 d_St_would_21 (by decide) (by decide) rfl (by decide) ?_
        refine sx_aload_n (pc2 := 57) hX 0 d_St_would_56 rfl rfl rfl ?_
        refine fg_St_64 (pc2 := 60) hX (hK 0 0 0 (by decide) (by decide)) d_St_would_57 rfl ?_
        refine fg_St_238 (pc2 := 63) hX (hK 34 0 0 (by decide) (by decide)) d_St_would_60 rfl ?_
        exact sx_iret hX hE h d_St_would_63
      · replace h := sx_f h hc5
        by_cases hc6 : x3 = 2
        · replace h := sx_t h hc6
          refine sx_swi (tgt := 64) hX 2 hc6 d_St_would_21 (by decide) (by decide) rfl (by decide) ?_
          refine sx_aload_n (pc2 := 65) hX 0 d_St_would_64 rfl rfl rfl ?_
          refine fg_St_64 (pc2 := 68) hX (hK 0 0 0 (by decide) (by decide)) d_St_would_65 rfl ?_
          refine fg_St_176 (pc2 := 71) hX (hK 34 0 0 (by decide) (by decide)) d_St_would_68 rfl ?_
          exact sx_iret hX hE h d_St_would_71
        · replace h := sx_f h hc6
          refine sx_swo (tgt := 72) hX d_St_would_21 (sx_out x3 2 (fun j hj => match j, hj with | 0, _ => hc4 | 1, _ => hc5 | 2, _ => hc6 | j + 3, hj => absurd hj (by omega)) (by decide)) (by decide) ?_
          refine sx_iconst (v := (-1)) (pc2 := 73) hX d_St_would_72 (by decide) rfl ?_
          exact sx_iret hX hE h d_St_would_73
  · replace h := sx_t h hc2
    refine sx_iconst (v := (-1)) (pc2 := 10) hX d_St_would_9 (by decide) rfl ?_
    exact sx_iret hX hE h d_St_would_10
def y_St_hop : MethodName := ⟨"SensorTree", "hop", "(III)I"⟩
theorem hy_St_hop : y_St_hop.cls ≠ "java/lang/invoke/MethodHandle" ∧ y_St_hop.cls ≠ "java/lang/invoke/VarHandle" ∧ (parseMethodDescriptor y_St_hop.desc).map (fun d => d.parameters.length) = some 3 := by decide +kernel
theorem d_St_hop_0 : decode prog_1_method_24_code 0 = .ok (.aload_n 0, 1) := by decide +kernel
theorem d_St_hop_1 : decode prog_1_method_24_code 1 = .ok (.iload_n 1, 1) := by decide +kernel
theorem d_St_hop_2 : decode prog_1_method_24_code 2 = .ok (.iload_n 2, 1) := by decide +kernel
theorem d_St_hop_3 : decode prog_1_method_24_code 3 = .ok (.invokevirtual 168, 3) := by decide +kernel
theorem d_St_hop_6 : decode prog_1_method_24_code 6 = .ok (.ifCond .ne 5, 3) := by decide +kernel
theorem d_St_hop_9 : decode prog_1_method_24_code 9 = .ok (.iconst (-1), 1) := by decide +kernel
theorem d_St_hop_10 : decode prog_1_method_24_code 10 = .ok (.ireturn, 1) := by decide +kernel
theorem d_St_hop_11 : decode prog_1_method_24_code 11 = .ok (.aload_n 0, 1) := by decide +kernel
theorem d_St_hop_12 : decode prog_1_method_24_code 12 = .ok (.getfield 64, 3) := by decide +kernel
theorem d_St_hop_15 : decode prog_1_method_24_code 15 = .ok (.iload_n 1, 1) := by decide +kernel
theorem d_St_hop_16 : decode prog_1_method_24_code 16 = .ok (.iload_n 2, 1) := by decide +kernel
theorem d_St_hop_17 : decode prog_1_method_24_code 17 = .ok (.invokevirtual 172, 3) := by decide +kernel
theorem d_St_hop_20 : decode prog_1_method_24_code 20 = .ok (.iload_n 3, 1) := by decide +kernel
theorem d_St_hop_21 : decode prog_1_method_24_code 21 = .ok (.ifCond .lt 26, 3) := by decide +kernel
theorem d_St_hop_24 : decode prog_1_method_24_code 24 = .ok (.iload_n 3, 1) := by decide +kernel
theorem d_St_hop_25 : decode prog_1_method_24_code 25 = .ok (.aload_n 0, 1) := by decide +kernel
theorem d_St_hop_26 : decode prog_1_method_24_code 26 = .ok (.getfield 64, 3) := by decide +kernel
theorem d_St_hop_29 : decode prog_1_method_24_code 29 = .ok (.getfield 238, 3) := by decide +kernel
theorem d_St_hop_32 : decode prog_1_method_24_code 32 = .ok (.if_icmp .ge 15, 3) := by decide +kernel
theorem d_St_hop_35 : decode prog_1_method_24_code 35 = .ok (.aload_n 0, 1) := by decide +kernel
theorem d_St_hop_36 : decode prog_1_method_24_code 36 = .ok (.getfield 64, 3) := by decide +kernel
theorem d_St_hop_39 : decode prog_1_method_24_code 39 = .ok (.getfield 241, 3) := by decide +kernel
theorem d_St_hop_42 : decode prog_1_method_24_code 42 = .ok (.iload_n 3, 1) := by decide +kernel
theorem d_St_hop_43 : decode prog_1_method_24_code 43 = .ok (.iaload, 1) := by decide +kernel
theorem d_St_hop_44 : decode prog_1_method_24_code 44 = .ok (.goto 4, 3) := by decide +kernel
theorem d_St_hop_47 : decode prog_1_method_24_code 47 = .ok (.iconst (-1), 1) := by decide +kernel
theorem d_St_hop_48 : decode prog_1_method_24_code 48 = .ok (.ireturn, 1) := by decide +kernel
def wp_St_hop_b48   (Q : Int32 → sx_M → Prop) (w0 : Int32) (σ : sx_M) : Prop := Q w0 σ
def wp_St_hop_b47   (Q : Int32 → sx_M → Prop)  (σ : sx_M) : Prop := wp_St_hop_b48 Q (-1) σ
def wp_St_hop (x1 : Int32) (x2 : Int32) (x3 : Int32) (σ : sx_M) (Q : Int32 → sx_M → Prop) : Prop := wp_St_canSend x1 x2 σ (fun r1 σ1 => if r1 = 0 then (Q (-1) σ1) else (wp_Jo_go x1 x2 σ1 (fun σ3 => if x3 < 0 then (wp_St_hop_b47 Q σ3) else (if σ3 34 0 0 2 ≤ x3 then (wp_St_hop_b47 Q σ3) else (vp_in x3 20 ∧ (wp_St_hop_b48 Q (σ3 35 0 0 x3.toNatClampNeg) σ3))))))
abbrev rm_St_hop : Room := { frames := 3, cells := 0, slots := 0, locals := 75 }
set_option maxRecDepth 100000 in
set_option maxHeartbeats 4000000 in
theorem g_St_hop_b48 {l : Launch} {K : sx_K} {X : sx_T}   {Q : Int32 → sx_M → Prop} (hX : sx_C X K prog_1_method_24_code 4 "SensorTree" (some .int) rm_St_hop l) (hK : kx_C K) (hE : sx_E X K (sx_Qi K (fun r σ _ => Q r σ)))  (w0 : Int32) (σ : sx_M) (τ : sx_L)  (h : wp_St_hop_b48 Q  w0 σ) : sx_G X K 4 48 [] [.int w0] (sx_H K σ τ) := by
  unfold wp_St_hop_b48 at h
  exact sx_iret hX hE h d_St_hop_48
set_option maxRecDepth 100000 in
set_option maxHeartbeats 4000000 in
theorem g_St_hop_b47 {l : Launch} {K : sx_K} {X : sx_T}   {Q : Int32 → sx_M → Prop} (hX : sx_C X K prog_1_method_24_code 4 "SensorTree" (some .int) rm_St_hop l) (hK : kx_C K) (hE : sx_E X K (sx_Qi K (fun r σ _ => Q r σ)))   (σ : sx_M) (τ : sx_L)  (h : wp_St_hop_b47 Q  σ) : sx_G X K 4 47 [] [] (sx_H K σ τ) := by
  unfold wp_St_hop_b47 at h
  refine sx_iconst (v := (-1)) (pc2 := 48) hX d_St_hop_47 (by decide) rfl ?_
  exact g_St_hop_b48 hX hK hE   (-1) _ _ h
set_option maxRecDepth 100000 in
set_option maxHeartbeats 4000000 in
theorem c_St_hop {l : Launch} {K : sx_K} (hK : kx_C K) (x1 : Int32) (x2 : Int32) (x3 : Int32) (σ : sx_M) (τ : sx_L) (Q : Int32 → sx_M → Prop)  (h : wp_St_hop x1 x2 x3 σ Q) : Met l y_St_hop (sx_wd y_St_hop prog_1_method_24_code 4 (some .int)) rm_St_hop (sx_Pc K [.ref (K.2.2.1 0 0 0), .int x1, .int x2, .int x3] σ τ) (sx_Qi K (fun r σ _ => Q r σ)) 0 0 (sx_A K) := by
  refine sx_met (by decide) (Nat.le_of_ble_eq_true rfl) (fun X hX hE => ?_)
  replace hX : sx_C X K prog_1_method_24_code 4 "SensorTree" (some .int) rm_St_hop l := hX
  show sx_G X K 4 0 [(0, .ref (K.2.2.1 0 0 0)), (1, .int x1), (2, .int x2), (3, .int x3)] [] (sx_H K σ τ)
  unfold wp_St_hop at h
  refine sx_aload_n (pc2 := 1) hX 0 d_St_hop_0 rfl rfl rfl ?_
  refine sx_iload_n (pc2 := 2) hX 1 d_St_hop_1 rfl rfl rfl ?_
  refine sx_iload_n (pc2 := 3) hX 2 d_St_hop_2 rfl rfl rfl ?_
  refine cl_St_168 (pc2 := 6) hX hK h  ⟨Nat.le_of_ble_eq_true rfl, Nat.le_of_ble_eq_true rfl⟩ (Nat.le_of_ble_eq_true rfl) d_St_hop_3 rfl (fun r1 σ1 τ1 h => ?_)
  refine sx_if_ne (tgt := 11) (pc2 := 9) hX d_St_hop_6 (by decide) rfl (fun hc2 => ?_) (fun hc2 => ?_)
  · replace h := sx_f h hc2
    refine sx_aload_n (pc2 := 12) hX 0 d_St_hop_11 rfl rfl rfl ?_
    refine fg_St_64 (pc2 := 15) hX (hK 0 0 0 (by decide) (by decide)) d_St_hop_12 rfl ?_
    refine sx_iload_n (pc2 := 16) hX 1 d_St_hop_15 rfl rfl rfl ?_
    refine sx_iload_n (pc2 := 17) hX 2 d_St_hop_16 rfl rfl rfl ?_
    refine cl_St_172 (pc2 := 20) hX hK h  ⟨Nat.le_of_ble_eq_true rfl, Nat.le_of_ble_eq_true rfl⟩ (Nat.le_of_ble_eq_true rfl) d_St_hop_17 rfl (fun σ3 τ3 h => ?_)
    refine sx_iload_n (pc2 := 21) hX 3 d_St_hop_20 rfl rfl rfl ?_
    refine sx_if_lt (tgt := 47) (pc2 := 24) hX d_St_hop_21 (by decide) rfl (fun hc4 => ?_) (fun hc4 => ?_)
    · replace h := sx_t h hc4
      refine sx_sub [] [] rfl ?_
      exact g_St_hop_b47 hX hK hE   _ _ h
    · replace h := sx_f h hc4
      refine sx_iload_n (pc2 := 25) hX 3 d_St_hop_24 rfl rfl rfl ?_
      refine sx_aload_n (pc2 := 26) hX 0 d_St_hop_25 rfl rfl rfl ?_
      refine fg_St_64 (pc2 := 29) hX (hK 0 0 0 (by decide) (by decide)) d_St_hop_26 rfl ?_
      refine fg_St_238 (pc2 := 32) hX (hK 34 0 0 (by decide) (by decide)) d_St_hop_29 rfl ?_
      refine sx_icmp_ge (tgt := 47) (pc2 := 35) hX d_St_hop_32 (by decide) rfl (fun hc5 => ?_) (fun hc5 => ?_)
      · replace h := sx_t h hc5
        refine sx_sub [] [] rfl ?_
        exact g_St_hop_b47 hX hK hE   _ _ h
      · replace h := sx_f h hc5
        refine sx_aload_n (pc2 := 36) hX 0 d_St_hop_35 rfl rfl rfl ?_
        refine fg_St_64 (pc2 := 39) hX (hK 0 0 0 (by decide) (by decide)) d_St_hop_36 rfl ?_
        refine fg_St_241 (pc2 := 42) hX (hK 34 0 0 (by decide) (by decide)) d_St_hop_39 rfl ?_
        refine sx_iload_n (pc2 := 43) hX 3 d_St_hop_42 rfl rfl rfl ?_
        obtain ⟨hc6, h⟩ := h
        refine sx_iald (pc2 := 44) hX (hK 35 0 0 (by decide) (by decide)) rfl hc6 d_St_hop_43 rfl ?_
        refine sx_goto (tgt := 48) hX d_St_hop_44 (by decide) ?_
        refine sx_sub [] [] rfl ?_
        exact g_St_hop_b48 hX hK hE   (σ3 35 0 0 x3.toNatClampNeg) _ _ h
  · replace h := sx_t h hc2
    refine sx_iconst (v := (-1)) (pc2 := 10) hX d_St_hop_9 (by decide) rfl ?_
    exact sx_iret hX hE h d_St_hop_10
def y_St_soon : MethodName := ⟨"SensorTree", "soon", "()I"⟩
theorem hy_St_soon : y_St_soon.cls ≠ "java/lang/invoke/MethodHandle" ∧ y_St_soon.cls ≠ "java/lang/invoke/VarHandle" ∧ (parseMethodDescriptor y_St_soon.desc).map (fun d => d.parameters.length) = some 0 := by decide +kernel
theorem d_St_soon_0 : decode prog_1_method_25_code 0 = .ok (.aload_n 0, 1) := by decide +kernel
theorem d_St_soon_1 : decode prog_1_method_25_code 1 = .ok (.getfield 39, 3) := by decide +kernel
theorem d_St_soon_4 : decode prog_1_method_25_code 4 = .ok (.aload_n 0, 1) := by decide +kernel
theorem d_St_soon_5 : decode prog_1_method_25_code 5 = .ok (.getfield 35, 3) := by decide +kernel
theorem d_St_soon_8 : decode prog_1_method_25_code 8 = .ok (.invokevirtual 191, 3) := by decide +kernel
theorem d_St_soon_11 : decode prog_1_method_25_code 11 = .ok (.aload_n 0, 1) := by decide +kernel
theorem d_St_soon_12 : decode prog_1_method_25_code 12 = .ok (.getfield 57, 3) := by decide +kernel
theorem d_St_soon_15 : decode prog_1_method_25_code 15 = .ok (.aload_n 0, 1) := by decide +kernel
theorem d_St_soon_16 : decode prog_1_method_25_code 16 = .ok (.getfield 39, 3) := by decide +kernel
theorem d_St_soon_19 : decode prog_1_method_25_code 19 = .ok (.iconst (-1), 1) := by decide +kernel
theorem d_St_soon_20 : decode prog_1_method_25_code 20 = .ok (.invokevirtual 221, 3) := by decide +kernel
theorem d_St_soon_23 : decode prog_1_method_25_code 23 = .ok (.iconst 0, 1) := by decide +kernel
theorem d_St_soon_24 : decode prog_1_method_25_code 24 = .ok (.istore_n 1, 1) := by decide +kernel
theorem d_St_soon_25 : decode prog_1_method_25_code 25 = .ok (.iload_n 1, 1) := by decide +kernel
theorem d_St_soon_26 : decode prog_1_method_25_code 26 = .ok (.sipush 200, 3) := by decide +kernel
theorem d_St_soon_29 : decode prog_1_method_25_code 29 = .ok (.if_icmp .gt 32, 3) := by decide +kernel
theorem d_St_soon_32 : decode prog_1_method_25_code 32 = .ok (.aload_n 0, 1) := by decide +kernel
theorem d_St_soon_33 : decode prog_1_method_25_code 33 = .ok (.getfield 57, 3) := by decide +kernel
theorem d_St_soon_36 : decode prog_1_method_25_code 36 = .ok (.aload_n 0, 1) := by decide +kernel
theorem d_St_soon_37 : decode prog_1_method_25_code 37 = .ok (.getfield 39, 3) := by decide +kernel
theorem d_St_soon_40 : decode prog_1_method_25_code 40 = .ok (.invokevirtual 228, 3) := by decide +kernel
theorem d_St_soon_43 : decode prog_1_method_25_code 43 = .ok (.ifCond .eq 5, 3) := by decide +kernel
theorem d_St_soon_46 : decode prog_1_method_25_code 46 = .ok (.iload_n 1, 1) := by decide +kernel
theorem d_St_soon_47 : decode prog_1_method_25_code 47 = .ok (.ireturn, 1) := by decide +kernel
theorem d_St_soon_48 : decode prog_1_method_25_code 48 = .ok (.aload_n 0, 1) := by decide +kernel
theorem d_St_soon_49 : decode prog_1_method_25_code 49 = .ok (.getfield 51, 3) := by decide +kernel
theorem d_St_soon_52 : decode prog_1_method_25_code 52 = .ok (.invokevirtual 122, 3) := by decide +kernel
theorem d_St_soon_55 : decode prog_1_method_25_code 55 = .ok (.iinc 1 1, 3) := by decide +kernel
theorem d_St_soon_58 : decode prog_1_method_25_code 58 = .ok (.goto (-33), 3) := by decide +kernel
theorem d_St_soon_61 : decode prog_1_method_25_code 61 = .ok (.bipush (-2), 2) := by decide +kernel
theorem d_St_soon_63 : decode prog_1_method_25_code 63 = .ok (.ireturn, 1) := by decide +kernel
def wp_St_soon_b25   (Q : Int32 → sx_M → Prop) : Nat → Int32 → sx_M → Prop
  | 0, _, _ => False
  | f + 1, v1, σ => if 200 < v1 then (Q (-2) σ) else (wp_Tr_isRight 1 σ (fun r2 σ2 => if r2 = 0 then (wp_En_passTick 1 σ2 (fun σ4 => wp_St_soon_b25 Q f (v1 + 1) σ4)) else (Q v1 σ2)))
def wp_St_soon  (σ : sx_M) (Q : Int32 → sx_M → Prop) : Prop := wp_Ne_copyFrom 1 0 σ (fun σ5 => wp_Tr_reckon 1 (-1 : Int32) σ5 (fun σ6 => ∃ f25, wp_St_soon_b25 Q f25 0 σ6))
abbrev rm_St_soon : Room := { frames := 6, cells := 0, slots := 0, locals := 141 }
set_option maxRecDepth 100000 in
set_option maxHeartbeats 4000000 in
theorem g_St_soon_b25 {l : Launch} {K : sx_K} {X : sx_T}   {Q : Int32 → sx_M → Prop} (hX : sx_C X K prog_1_method_25_code 2 "SensorTree" (some .int) rm_St_soon l) (hK : kx_C K) (hE : sx_E X K (sx_Qi K (fun r σ _ => Q r σ)))  : ∀ (f : Nat) (v1 : Int32) (σ : sx_M) (τ : sx_L) , wp_St_soon_b25 Q f v1 σ → sx_G X K 2 25 [(0, .ref (K.2.2.1 0 0 0)), (1, .int v1)] [] (sx_H K σ τ) := by
  intro f
  induction f with
  | zero => intro v1 σ τ h; exact (show False from h).elim
  | succ f ih =>
    intro v1 σ τ h
    rw [wp_St_soon_b25] at h
    refine sx_iload_n (pc2 := 26) hX 1 d_St_soon_25 rfl rfl rfl ?_
    refine sx_sipush (v := 200) (pc2 := 29) hX d_St_soon_26 (by decide) rfl ?_
    refine sx_icmp_gt (tgt := 61) (pc2 := 32) hX d_St_soon_29 (by decide) rfl (fun hc1 => ?_) (fun hc1 => ?_)
    · replace h := sx_t h hc1
      refine sx_bipush (v := (-2)) (pc2 := 63) hX d_St_soon_61 (by decide) rfl ?_
      exact sx_iret hX hE h d_St_soon_63
    · replace h := sx_f h hc1
      refine sx_aload_n (pc2 := 33) hX 0 d_St_soon_32 rfl rfl rfl ?_
      refine fg_St_57 (pc2 := 36) hX (hK 0 0 0 (by decide) (by decide)) d_St_soon_33 rfl ?_
      refine sx_aload_n (pc2 := 37) hX 0 d_St_soon_36 rfl rfl rfl ?_
      refine fg_St_39 (pc2 := 40) hX (hK 0 0 0 (by decide) (by decide)) d_St_soon_37 rfl ?_
      refine cl_St_228 (pc2 := 43) hX hK h (by decide) ⟨Nat.le_of_ble_eq_true rfl, Nat.le_of_ble_eq_true rfl⟩ (Nat.le_of_ble_eq_true rfl) d_St_soon_40 rfl (fun r2 σ2 τ2 h => ?_)
      refine sx_if_eq (tgt := 48) (pc2 := 46) hX d_St_soon_43 (by decide) rfl (fun hc3 => ?_) (fun hc3 => ?_)
      · replace h := sx_t h hc3
        refine sx_aload_n (pc2 := 49) hX 0 d_St_soon_48 rfl rfl rfl ?_
        refine fg_St_51 (pc2 := 52) hX (hK 0 0 0 (by decide) (by decide)) d_St_soon_49 rfl ?_
        refine cl_St_122 (pc2 := 55) hX hK h (by decide) ⟨Nat.le_of_ble_eq_true rfl, Nat.le_of_ble_eq_true rfl⟩ (Nat.le_of_ble_eq_true rfl) d_St_soon_52 rfl (fun σ4 τ4 h => ?_)
        refine sx_iinc (pc2 := 58) hX 1 _ [(0, .ref (K.2.2.1 0 0 0)), (1, .int (v1 + 1))] [1, 0] d_St_soon_55 rfl (v1 + 1) rfl (by decide) rfl rfl rfl ?_
        refine sx_goto (tgt := 25) hX d_St_soon_58 (by decide) ?_
        exact ih (v1 + 1) _ _ h
      · replace h := sx_f h hc3
        refine sx_iload_n (pc2 := 47) hX 1 d_St_soon_46 rfl rfl rfl ?_
        exact sx_iret hX hE h d_St_soon_47
set_option maxRecDepth 100000 in
set_option maxHeartbeats 4000000 in
theorem c_St_soon {l : Launch} {K : sx_K} (hK : kx_C K)  (σ : sx_M) (τ : sx_L) (Q : Int32 → sx_M → Prop)  (h : wp_St_soon σ Q) : Met l y_St_soon (sx_wd y_St_soon prog_1_method_25_code 2 (some .int)) rm_St_soon (sx_Pc K [.ref (K.2.2.1 0 0 0)] σ τ) (sx_Qi K (fun r σ _ => Q r σ)) 0 0 (sx_A K) := by
  refine sx_met (by decide) (Nat.le_of_ble_eq_true rfl) (fun X hX hE => ?_)
  replace hX : sx_C X K prog_1_method_25_code 2 "SensorTree" (some .int) rm_St_soon l := hX
  show sx_G X K 2 0 [(0, .ref (K.2.2.1 0 0 0))] [] (sx_H K σ τ)
  unfold wp_St_soon at h
  refine sx_aload_n (pc2 := 1) hX 0 d_St_soon_0 rfl rfl rfl ?_
  refine fg_St_39 (pc2 := 4) hX (hK 0 0 0 (by decide) (by decide)) d_St_soon_1 rfl ?_
  refine sx_aload_n (pc2 := 5) hX 0 d_St_soon_4 rfl rfl rfl ?_
  refine fg_St_35 (pc2 := 8) hX (hK 0 0 0 (by decide) (by decide)) d_St_soon_5 rfl ?_
  refine cl_St_191 (pc2 := 11) hX hK h (by decide) (by decide) ⟨Nat.le_of_ble_eq_true rfl, Nat.le_of_ble_eq_true rfl⟩ (Nat.le_of_ble_eq_true rfl) d_St_soon_8 rfl (fun σ5 τ5 h => ?_)
  refine sx_aload_n (pc2 := 12) hX 0 d_St_soon_11 rfl rfl rfl ?_
  refine fg_St_57 (pc2 := 15) hX (hK 0 0 0 (by decide) (by decide)) d_St_soon_12 rfl ?_
  refine sx_aload_n (pc2 := 16) hX 0 d_St_soon_15 rfl rfl rfl ?_
  refine fg_St_39 (pc2 := 19) hX (hK 0 0 0 (by decide) (by decide)) d_St_soon_16 rfl ?_
  refine sx_iconst (v := (-1)) (pc2 := 20) hX d_St_soon_19 (by decide) rfl ?_
  refine cl_St_221 (pc2 := 23) hX hK h (by decide) ⟨Nat.le_of_ble_eq_true rfl, Nat.le_of_ble_eq_true rfl⟩ (Nat.le_of_ble_eq_true rfl) d_St_soon_20 rfl (fun σ6 τ6 h => ?_)
  refine sx_iconst (v := 0) (pc2 := 24) hX d_St_soon_23 (by decide) rfl ?_
  refine sx_istore_n (pc2 := 25) hX _ [(0, .ref (K.2.2.1 0 0 0)), (1, .int 0)] [1, 0] d_St_soon_24 rfl (by decide) rfl rfl rfl ?_
  obtain ⟨f25, h⟩ := h
  exact g_St_soon_b25 hX hK hE   f25 0 _ _ h
def y_St_dreamOn : MethodName := ⟨"SensorTree", "dreamOn", "(II)V"⟩
theorem hy_St_dreamOn : y_St_dreamOn.cls ≠ "java/lang/invoke/MethodHandle" ∧ y_St_dreamOn.cls ≠ "java/lang/invoke/VarHandle" ∧ (parseMethodDescriptor y_St_dreamOn.desc).map (fun d => d.parameters.length) = some 2 := by decide +kernel
theorem d_St_dreamOn_0 : decode prog_1_method_46_code 0 = .ok (.aload_n 0, 1) := by decide +kernel
theorem d_St_dreamOn_1 : decode prog_1_method_46_code 1 = .ok (.getfield 39, 3) := by decide +kernel
theorem d_St_dreamOn_4 : decode prog_1_method_46_code 4 = .ok (.aload_n 0, 1) := by decide +kernel
theorem d_St_dreamOn_5 : decode prog_1_method_46_code 5 = .ok (.getfield 35, 3) := by decide +kernel
theorem d_St_dreamOn_8 : decode prog_1_method_46_code 8 = .ok (.invokevirtual 191, 3) := by decide +kernel
theorem d_St_dreamOn_11 : decode prog_1_method_46_code 11 = .ok (.aload_n 0, 1) := by decide +kernel
theorem d_St_dreamOn_12 : decode prog_1_method_46_code 12 = .ok (.getfield 51, 3) := by decide +kernel
theorem d_St_dreamOn_15 : decode prog_1_method_46_code 15 = .ok (.iload_n 2, 1) := by decide +kernel
theorem d_St_dreamOn_16 : decode prog_1_method_46_code 16 = .ok (.putfield 321, 3) := by decide +kernel
theorem d_St_dreamOn_19 : decode prog_1_method_46_code 19 = .ok (.iconst 0, 1) := by decide +kernel
theorem d_St_dreamOn_20 : decode prog_1_method_46_code 20 = .ok (.istore_n 3, 1) := by decide +kernel
theorem d_St_dreamOn_21 : decode prog_1_method_46_code 21 = .ok (.iload_n 3, 1) := by decide +kernel
theorem d_St_dreamOn_22 : decode prog_1_method_46_code 22 = .ok (.iload_n 1, 1) := by decide +kernel
theorem d_St_dreamOn_23 : decode prog_1_method_46_code 23 = .ok (.if_icmp .ge 16, 3) := by decide +kernel
theorem d_St_dreamOn_26 : decode prog_1_method_46_code 26 = .ok (.aload_n 0, 1) := by decide +kernel
theorem d_St_dreamOn_27 : decode prog_1_method_46_code 27 = .ok (.getfield 51, 3) := by decide +kernel
theorem d_St_dreamOn_30 : decode prog_1_method_46_code 30 = .ok (.invokevirtual 122, 3) := by decide +kernel
theorem d_St_dreamOn_33 : decode prog_1_method_46_code 33 = .ok (.iinc 3 1, 3) := by decide +kernel
theorem d_St_dreamOn_36 : decode prog_1_method_46_code 36 = .ok (.goto (-15), 3) := by decide +kernel
theorem d_St_dreamOn_39 : decode prog_1_method_46_code 39 = .ok (.aload_n 0, 1) := by decide +kernel
theorem d_St_dreamOn_40 : decode prog_1_method_46_code 40 = .ok (.getfield 51, 3) := by decide +kernel
theorem d_St_dreamOn_43 : decode prog_1_method_46_code 43 = .ok (.iconst 0, 1) := by decide +kernel
theorem d_St_dreamOn_44 : decode prog_1_method_46_code 44 = .ok (.putfield 321, 3) := by decide +kernel
theorem d_St_dreamOn_47 : decode prog_1_method_46_code 47 = .ok (.return_, 1) := by decide +kernel
def wp_St_dreamOn_b21   (Q : sx_M → Prop) : Nat → Int32 → Int32 → sx_M → Prop
  | 0, _, _, _ => False
  | f + 1, v1, v3, σ => if v1 ≤ v3 then (∀ σ2 : sx_M, σ2 = sx_u σ 31 1 0 3 0 → (Q σ2)) else (wp_En_passTick 1 σ (fun σ3 => wp_St_dreamOn_b21 Q f v1 (v3 + 1) σ3))
def wp_St_dreamOn (x1 : Int32) (x2 : Int32) (σ : sx_M) (Q : sx_M → Prop) : Prop := wp_Ne_copyFrom 1 0 σ (fun σ4 => ∀ σ5 : sx_M, σ5 = sx_u σ4 31 1 0 3 x2 → (∃ f21, wp_St_dreamOn_b21 Q f21 x1 0 σ5))
abbrev rm_St_dreamOn : Room := { frames := 6, cells := 0, slots := 0, locals := 141 }
set_option maxRecDepth 100000 in
set_option maxHeartbeats 4000000 in
theorem g_St_dreamOn_b21 {l : Launch} {K : sx_K} {X : sx_T}   {Q : sx_M → Prop} (hX : sx_C X K prog_1_method_46_code 4 "SensorTree" none rm_St_dreamOn l) (hK : kx_C K) (hE : sx_E X K (sx_Qv K (fun σ _ => Q σ)))  : ∀ (f : Nat) (v1 : Int32) (v3 : Int32) (σ : sx_M) (τ : sx_L) , wp_St_dreamOn_b21 Q f v1 v3 σ → sx_G X K 4 21 [(0, .ref (K.2.2.1 0 0 0)), (1, .int v1), (3, .int v3)] [] (sx_H K σ τ) := by
  intro f
  induction f with
  | zero => intro v1 v3 σ τ h; exact (show False from h).elim
  | succ f ih =>
    intro v1 v3 σ τ h
    rw [wp_St_dreamOn_b21] at h
    refine sx_iload_n (pc2 := 22) hX 2 d_St_dreamOn_21 rfl rfl rfl ?_
    refine sx_iload_n (pc2 := 23) hX 1 d_St_dreamOn_22 rfl rfl rfl ?_
    refine sx_icmp_ge (tgt := 39) (pc2 := 26) hX d_St_dreamOn_23 (by decide) rfl (fun hc1 => ?_) (fun hc1 => ?_)
    · replace h := sx_t h hc1
      refine sx_aload_n (pc2 := 40) hX 0 d_St_dreamOn_39 rfl rfl rfl ?_
      refine fg_St_51 (pc2 := 43) hX (hK 0 0 0 (by decide) (by decide)) d_St_dreamOn_40 rfl ?_
      refine sx_iconst (v := 0) (pc2 := 44) hX d_St_dreamOn_43 (by decide) rfl ?_
      refine fp_St_321 (pc2 := 47) hX (hK 31 1 0 (by decide) (by decide)) d_St_dreamOn_44 rfl ?_
      refine sx_nm (fun σ2 e2 => ?_)
      replace h := h σ2 e2
      exact sx_vret hX hE h d_St_dreamOn_47
    · replace h := sx_f h hc1
      refine sx_aload_n (pc2 := 27) hX 0 d_St_dreamOn_26 rfl rfl rfl ?_
      refine fg_St_51 (pc2 := 30) hX (hK 0 0 0 (by decide) (by decide)) d_St_dreamOn_27 rfl ?_
      refine cl_St_122 (pc2 := 33) hX hK h (by decide) ⟨Nat.le_of_ble_eq_true rfl, Nat.le_of_ble_eq_true rfl⟩ (Nat.le_of_ble_eq_true rfl) d_St_dreamOn_30 rfl (fun σ3 τ3 h => ?_)
      refine sx_iinc (pc2 := 36) hX 2 _ [(0, .ref (K.2.2.1 0 0 0)), (1, .int v1), (3, .int (v3 + 1))] [1, 2, 0] d_St_dreamOn_33 rfl (v3 + 1) rfl (by decide) rfl rfl rfl ?_
      refine sx_goto (tgt := 21) hX d_St_dreamOn_36 (by decide) ?_
      exact ih v1 (v3 + 1) _ _ h
set_option maxRecDepth 100000 in
set_option maxHeartbeats 4000000 in
theorem c_St_dreamOn {l : Launch} {K : sx_K} (hK : kx_C K) (x1 : Int32) (x2 : Int32) (σ : sx_M) (τ : sx_L) (Q : sx_M → Prop)  (h : wp_St_dreamOn x1 x2 σ Q) : Met l y_St_dreamOn (sx_wd y_St_dreamOn prog_1_method_46_code 4 none) rm_St_dreamOn (sx_Pc K [.ref (K.2.2.1 0 0 0), .int x1, .int x2] σ τ) (sx_Qv K (fun σ _ => Q σ)) 0 0 (sx_A K) := by
  refine sx_met (by decide) (Nat.le_of_ble_eq_true rfl) (fun X hX hE => ?_)
  replace hX : sx_C X K prog_1_method_46_code 4 "SensorTree" none rm_St_dreamOn l := hX
  show sx_G X K 4 0 [(0, .ref (K.2.2.1 0 0 0)), (1, .int x1), (2, .int x2)] [] (sx_H K σ τ)
  unfold wp_St_dreamOn at h
  refine sx_aload_n (pc2 := 1) hX 0 d_St_dreamOn_0 rfl rfl rfl ?_
  refine fg_St_39 (pc2 := 4) hX (hK 0 0 0 (by decide) (by decide)) d_St_dreamOn_1 rfl ?_
  refine sx_aload_n (pc2 := 5) hX 0 d_St_dreamOn_4 rfl rfl rfl ?_
  refine fg_St_35 (pc2 := 8) hX (hK 0 0 0 (by decide) (by decide)) d_St_dreamOn_5 rfl ?_
  refine cl_St_191 (pc2 := 11) hX hK h (by decide) (by decide) ⟨Nat.le_of_ble_eq_true rfl, Nat.le_of_ble_eq_true rfl⟩ (Nat.le_of_ble_eq_true rfl) d_St_dreamOn_8 rfl (fun σ4 τ4 h => ?_)
  refine sx_aload_n (pc2 := 12) hX 0 d_St_dreamOn_11 rfl rfl rfl ?_
  refine fg_St_51 (pc2 := 15) hX (hK 0 0 0 (by decide) (by decide)) d_St_dreamOn_12 rfl ?_
  refine sx_iload_n (pc2 := 16) hX 2 d_St_dreamOn_15 rfl rfl rfl ?_
  refine fp_St_321 (pc2 := 19) hX (hK 31 1 0 (by decide) (by decide)) d_St_dreamOn_16 rfl ?_
  refine sx_nm (fun σ5 e5 => ?_)
  replace h := h σ5 e5
  refine sx_iconst (v := 0) (pc2 := 20) hX d_St_dreamOn_19 (by decide) rfl ?_
  refine sx_istore_n (pc2 := 21) hX _ [(0, .ref (K.2.2.1 0 0 0)), (1, .int x1), (2, .int x2), (3, .int 0)] [1, 2, 3, 0] d_St_dreamOn_20 rfl (by decide) rfl rfl rfl ?_
  refine sx_sub [(0, .ref (K.2.2.1 0 0 0)), (1, .int x1), (3, .int 0)] [0, 1, 3] rfl ?_
  obtain ⟨f21, h⟩ := h
  exact g_St_dreamOn_b21 hX hK hE   f21 x1 0 _ _ h
theorem cl_St_244 {X : sx_T} {K : sx_K} {cc : ByteArray} {nL : Nat} {ret : Option FieldType} {rm : Room} {l : Launch} {pc pc2 : Nat} {lv : List (Nat × Value)} {st : List Value} {σ : sx_M} {τ : sx_L} {x1 : Int32} {x2 : Int32} {Q : sx_M → Prop} (hX : sx_C X K cc nL "SensorTree" ret rm l) (hK : kx_C K) (h : wp_St_dreamOn x1 x2 σ Q)  (hR : rm_St_dreamOn.frames + 1 ≤ rm.frames ∧ 8 + (4 + 11) + rm_St_dreamOn.locals ≤ rm.locals) (hst : (st.map fun v => v.category).sum ≤ 8) (hd : decode cc pc = .ok (.invokevirtual 244, 3)) (hpc : pc + 3 = pc2) (kk : ∀ (σ2 : sx_M) (τ2 : sx_L), Q σ2 → sx_G X K nL pc2 lv (st) (sx_H K σ2 τ2)) : sx_G X K nL pc lv (.int x2 :: .int x1 :: .ref (K.2.2.1 0 0 0) :: st) (sx_H K σ τ) :=
  sx_callVv (Q := fun σ _ => Q σ) (As := [.int x1, .int x2]) hX (c_St_dreamOn hK x1 x2 σ τ Q  h) (hK 0 0 0 (by decide) (by decide)) rfl rfl lk_323 ls_35 hy_St_dreamOn lk_321 lk_260 lk_322 ⟨rfl, rfl⟩ hR hst rfl hd hpc kk
def y_St_busy : MethodName := ⟨"SensorTree", "busy", "(I)I"⟩
theorem hy_St_busy : y_St_busy.cls ≠ "java/lang/invoke/MethodHandle" ∧ y_St_busy.cls ≠ "java/lang/invoke/VarHandle" ∧ (parseMethodDescriptor y_St_busy.desc).map (fun d => d.parameters.length) = some 1 := by decide +kernel
theorem d_St_busy_0 : decode prog_1_method_26_code 0 = .ok (.iload_n 1, 1) := by decide +kernel
theorem d_St_busy_1 : decode prog_1_method_26_code 1 = .ok (.invokestatic 115, 3) := by decide +kernel
theorem d_St_busy_4 : decode prog_1_method_26_code 4 = .ok (.ifCond .ne 5, 3) := by decide +kernel
theorem d_St_busy_7 : decode prog_1_method_26_code 7 = .ok (.iconst (-1), 1) := by decide +kernel
theorem d_St_busy_8 : decode prog_1_method_26_code 8 = .ok (.ireturn, 1) := by decide +kernel
theorem d_St_busy_9 : decode prog_1_method_26_code 9 = .ok (.aload_n 0, 1) := by decide +kernel
theorem d_St_busy_10 : decode prog_1_method_26_code 10 = .ok (.iload_n 1, 1) := by decide +kernel
theorem d_St_busy_11 : decode prog_1_method_26_code 11 = .ok (.iconst 0, 1) := by decide +kernel
theorem d_St_busy_12 : decode prog_1_method_26_code 12 = .ok (.invokevirtual 244, 3) := by decide +kernel
theorem d_St_busy_15 : decode prog_1_method_26_code 15 = .ok (.aload_n 0, 1) := by decide +kernel
theorem d_St_busy_16 : decode prog_1_method_26_code 16 = .ok (.getfield 39, 3) := by decide +kernel
theorem d_St_busy_19 : decode prog_1_method_26_code 19 = .ok (.invokevirtual 247, 3) := by decide +kernel
theorem d_St_busy_22 : decode prog_1_method_26_code 22 = .ok (.aload_n 0, 1) := by decide +kernel
theorem d_St_busy_23 : decode prog_1_method_26_code 23 = .ok (.getfield 35, 3) := by decide +kernel
theorem d_St_busy_26 : decode prog_1_method_26_code 26 = .ok (.invokevirtual 247, 3) := by decide +kernel
theorem d_St_busy_29 : decode prog_1_method_26_code 29 = .ok (.isub, 1) := by decide +kernel
theorem d_St_busy_30 : decode prog_1_method_26_code 30 = .ok (.ireturn, 1) := by decide +kernel
def wp_St_busy (x1 : Int32) (σ : sx_M) (Q : Int32 → sx_M → Prop) : Prop := wp_St_isTicks x1 σ (fun r1 σ1 => if r1 = 0 then (Q (-1) σ1) else (wp_St_dreamOn x1 (0 : Int32) σ1 (fun σ3 => wp_Ne_messagesPut 1 σ3 (fun r4 σ4 => wp_Ne_messagesPut 0 σ4 (fun r5 σ5 => Q (r4 - r5) σ5)))))
abbrev rm_St_busy : Room := { frames := 7, cells := 0, slots := 0, locals := 164 }
set_option maxRecDepth 100000 in
set_option maxHeartbeats 4000000 in
theorem c_St_busy {l : Launch} {K : sx_K} (hK : kx_C K) (x1 : Int32) (σ : sx_M) (τ : sx_L) (Q : Int32 → sx_M → Prop)  (h : wp_St_busy x1 σ Q) : Met l y_St_busy (sx_wd y_St_busy prog_1_method_26_code 2 (some .int)) rm_St_busy (sx_Pc K [.ref (K.2.2.1 0 0 0), .int x1] σ τ) (sx_Qi K (fun r σ _ => Q r σ)) 0 0 (sx_A K) := by
  refine sx_met (by decide) (Nat.le_of_ble_eq_true rfl) (fun X hX hE => ?_)
  replace hX : sx_C X K prog_1_method_26_code 2 "SensorTree" (some .int) rm_St_busy l := hX
  show sx_G X K 2 0 [(0, .ref (K.2.2.1 0 0 0)), (1, .int x1)] [] (sx_H K σ τ)
  unfold wp_St_busy at h
  refine sx_iload_n (pc2 := 1) hX 1 d_St_busy_0 rfl rfl rfl ?_
  refine cl_St_115 (pc2 := 4) hX hK h  ⟨Nat.le_of_ble_eq_true rfl, Nat.le_of_ble_eq_true rfl⟩ (Nat.le_of_ble_eq_true rfl) d_St_busy_1 rfl (fun r1 σ1 τ1 h => ?_)
  refine sx_if_ne (tgt := 9) (pc2 := 7) hX d_St_busy_4 (by decide) rfl (fun hc2 => ?_) (fun hc2 => ?_)
  · replace h := sx_f h hc2
    refine sx_aload_n (pc2 := 10) hX 0 d_St_busy_9 rfl rfl rfl ?_
    refine sx_iload_n (pc2 := 11) hX 1 d_St_busy_10 rfl rfl rfl ?_
    refine sx_iconst (v := 0) (pc2 := 12) hX d_St_busy_11 (by decide) rfl ?_
    refine cl_St_244 (pc2 := 15) hX hK h  ⟨Nat.le_of_ble_eq_true rfl, Nat.le_of_ble_eq_true rfl⟩ (Nat.le_of_ble_eq_true rfl) d_St_busy_12 rfl (fun σ3 τ3 h => ?_)
    refine sx_aload_n (pc2 := 16) hX 0 d_St_busy_15 rfl rfl rfl ?_
    refine fg_St_39 (pc2 := 19) hX (hK 0 0 0 (by decide) (by decide)) d_St_busy_16 rfl ?_
    refine cl_St_247 (pc2 := 22) hX hK h (by decide) ⟨Nat.le_of_ble_eq_true rfl, Nat.le_of_ble_eq_true rfl⟩ (Nat.le_of_ble_eq_true rfl) d_St_busy_19 rfl (fun r4 σ4 τ4 h => ?_)
    refine sx_aload_n (pc2 := 23) hX 0 d_St_busy_22 rfl rfl rfl ?_
    refine fg_St_35 (pc2 := 26) hX (hK 0 0 0 (by decide) (by decide)) d_St_busy_23 rfl ?_
    refine cl_St_247 (pc2 := 29) hX hK h (by decide) ⟨Nat.le_of_ble_eq_true rfl, Nat.le_of_ble_eq_true rfl⟩ (Nat.le_of_ble_eq_true rfl) d_St_busy_26 rfl (fun r5 σ5 τ5 h => ?_)
    refine sx_isub (pc2 := 30) hX d_St_busy_29 rfl ?_
    exact sx_iret hX hE h d_St_busy_30
  · replace h := sx_t h hc2
    refine sx_iconst (v := (-1)) (pc2 := 8) hX d_St_busy_7 (by decide) rfl ?_
    exact sx_iret hX hE h d_St_busy_8
def y_St_cut : MethodName := ⟨"SensorTree", "cut", "(I)I"⟩
theorem hy_St_cut : y_St_cut.cls ≠ "java/lang/invoke/MethodHandle" ∧ y_St_cut.cls ≠ "java/lang/invoke/VarHandle" ∧ (parseMethodDescriptor y_St_cut.desc).map (fun d => d.parameters.length) = some 1 := by decide +kernel
theorem d_St_cut_0 : decode prog_1_method_27_code 0 = .ok (.aload_n 0, 1) := by decide +kernel
theorem d_St_cut_1 : decode prog_1_method_27_code 1 = .ok (.getfield 26, 3) := by decide +kernel
theorem d_St_cut_4 : decode prog_1_method_27_code 4 = .ok (.iload_n 1, 1) := by decide +kernel
theorem d_St_cut_5 : decode prog_1_method_27_code 5 = .ok (.invokevirtual 128, 3) := by decide +kernel
theorem d_St_cut_8 : decode prog_1_method_27_code 8 = .ok (.ifCond .eq 14, 3) := by decide +kernel
theorem d_St_cut_11 : decode prog_1_method_27_code 11 = .ok (.aload_n 0, 1) := by decide +kernel
theorem d_St_cut_12 : decode prog_1_method_27_code 12 = .ok (.getfield 35, 3) := by decide +kernel
theorem d_St_cut_15 : decode prog_1_method_27_code 15 = .ok (.iload_n 1, 1) := by decide +kernel
theorem d_St_cut_16 : decode prog_1_method_27_code 16 = .ok (.invokevirtual 131, 3) := by decide +kernel
theorem d_St_cut_19 : decode prog_1_method_27_code 19 = .ok (.ifCond .ne 5, 3) := by decide +kernel
theorem d_St_cut_22 : decode prog_1_method_27_code 22 = .ok (.iconst (-1), 1) := by decide +kernel
theorem d_St_cut_23 : decode prog_1_method_27_code 23 = .ok (.ireturn, 1) := by decide +kernel
theorem d_St_cut_24 : decode prog_1_method_27_code 24 = .ok (.aload_n 0, 1) := by decide +kernel
theorem d_St_cut_25 : decode prog_1_method_27_code 25 = .ok (.getfield 57, 3) := by decide +kernel
theorem d_St_cut_28 : decode prog_1_method_27_code 28 = .ok (.aload_n 0, 1) := by decide +kernel
theorem d_St_cut_29 : decode prog_1_method_27_code 29 = .ok (.getfield 35, 3) := by decide +kernel
theorem d_St_cut_32 : decode prog_1_method_27_code 32 = .ok (.iconst (-1), 1) := by decide +kernel
theorem d_St_cut_33 : decode prog_1_method_27_code 33 = .ok (.invokevirtual 221, 3) := by decide +kernel
theorem d_St_cut_36 : decode prog_1_method_27_code 36 = .ok (.aload_n 0, 1) := by decide +kernel
theorem d_St_cut_37 : decode prog_1_method_27_code 37 = .ok (.getfield 57, 3) := by decide +kernel
theorem d_St_cut_40 : decode prog_1_method_27_code 40 = .ok (.aload_n 0, 1) := by decide +kernel
theorem d_St_cut_41 : decode prog_1_method_27_code 41 = .ok (.getfield 35, 3) := by decide +kernel
theorem d_St_cut_44 : decode prog_1_method_27_code 44 = .ok (.invokevirtual 251, 3) := by decide +kernel
theorem d_St_cut_47 : decode prog_1_method_27_code 47 = .ok (.istore_n 2, 1) := by decide +kernel
theorem d_St_cut_48 : decode prog_1_method_27_code 48 = .ok (.aload_n 0, 1) := by decide +kernel
theorem d_St_cut_49 : decode prog_1_method_27_code 49 = .ok (.getfield 57, 3) := by decide +kernel
theorem d_St_cut_52 : decode prog_1_method_27_code 52 = .ok (.aload_n 0, 1) := by decide +kernel
theorem d_St_cut_53 : decode prog_1_method_27_code 53 = .ok (.getfield 35, 3) := by decide +kernel
theorem d_St_cut_56 : decode prog_1_method_27_code 56 = .ok (.iload_n 1, 1) := by decide +kernel
theorem d_St_cut_57 : decode prog_1_method_27_code 57 = .ok (.invokevirtual 221, 3) := by decide +kernel
theorem d_St_cut_60 : decode prog_1_method_27_code 60 = .ok (.iload_n 2, 1) := by decide +kernel
theorem d_St_cut_61 : decode prog_1_method_27_code 61 = .ok (.aload_n 0, 1) := by decide +kernel
theorem d_St_cut_62 : decode prog_1_method_27_code 62 = .ok (.getfield 57, 3) := by decide +kernel
theorem d_St_cut_65 : decode prog_1_method_27_code 65 = .ok (.aload_n 0, 1) := by decide +kernel
theorem d_St_cut_66 : decode prog_1_method_27_code 66 = .ok (.getfield 35, 3) := by decide +kernel
theorem d_St_cut_69 : decode prog_1_method_27_code 69 = .ok (.invokevirtual 251, 3) := by decide +kernel
theorem d_St_cut_72 : decode prog_1_method_27_code 72 = .ok (.isub, 1) := by decide +kernel
theorem d_St_cut_73 : decode prog_1_method_27_code 73 = .ok (.ireturn, 1) := by decide +kernel
def wp_St_cut_b22   (Q : Int32 → sx_M → Prop)  (σ : sx_M) : Prop := Q (-1) σ
def wp_St_cut (x1 : Int32) (σ : sx_M) (Q : Int32 → sx_M → Prop) : Prop := wp_Pl_isLink 0 x1 σ (fun r1 σ1 => if r1 = 0 then (wp_St_cut_b22 Q σ1) else (wp_Ne_isUp 0 x1 σ1 (fun r3 σ3 => if r3 = 0 then (wp_St_cut_b22 Q σ3) else (wp_Tr_reckon 0 (-1 : Int32) σ3 (fun σ5 => wp_Tr_postsReached 0 σ5 (fun r6 σ6 => wp_Tr_reckon 0 x1 σ6 (fun σ7 => wp_Tr_postsReached 0 σ7 (fun r8 σ8 => Q (r6 - r8) σ8))))))))
abbrev rm_St_cut : Room := { frames := 2, cells := 0, slots := 0, locals := 51 }
set_option maxRecDepth 100000 in
set_option maxHeartbeats 4000000 in
theorem g_St_cut_b22 {l : Launch} {K : sx_K} {X : sx_T}   {Q : Int32 → sx_M → Prop} (hX : sx_C X K prog_1_method_27_code 3 "SensorTree" (some .int) rm_St_cut l) (hK : kx_C K) (hE : sx_E X K (sx_Qi K (fun r σ _ => Q r σ)))   (σ : sx_M) (τ : sx_L)  (h : wp_St_cut_b22 Q  σ) : sx_G X K 3 22 [] [] (sx_H K σ τ) := by
  unfold wp_St_cut_b22 at h
  refine sx_iconst (v := (-1)) (pc2 := 23) hX d_St_cut_22 (by decide) rfl ?_
  exact sx_iret hX hE h d_St_cut_23
set_option maxRecDepth 100000 in
set_option maxHeartbeats 4000000 in
theorem c_St_cut {l : Launch} {K : sx_K} (hK : kx_C K) (x1 : Int32) (σ : sx_M) (τ : sx_L) (Q : Int32 → sx_M → Prop)  (h : wp_St_cut x1 σ Q) : Met l y_St_cut (sx_wd y_St_cut prog_1_method_27_code 3 (some .int)) rm_St_cut (sx_Pc K [.ref (K.2.2.1 0 0 0), .int x1] σ τ) (sx_Qi K (fun r σ _ => Q r σ)) 0 0 (sx_A K) := by
  refine sx_met (by decide) (Nat.le_of_ble_eq_true rfl) (fun X hX hE => ?_)
  replace hX : sx_C X K prog_1_method_27_code 3 "SensorTree" (some .int) rm_St_cut l := hX
  show sx_G X K 3 0 [(0, .ref (K.2.2.1 0 0 0)), (1, .int x1)] [] (sx_H K σ τ)
  unfold wp_St_cut at h
  refine sx_aload_n (pc2 := 1) hX 0 d_St_cut_0 rfl rfl rfl ?_
  refine fg_St_26 (pc2 := 4) hX (hK 0 0 0 (by decide) (by decide)) d_St_cut_1 rfl ?_
  refine sx_iload_n (pc2 := 5) hX 1 d_St_cut_4 rfl rfl rfl ?_
  refine cl_St_128 (pc2 := 8) hX hK h (by decide) ⟨Nat.le_of_ble_eq_true rfl, Nat.le_of_ble_eq_true rfl⟩ (Nat.le_of_ble_eq_true rfl) d_St_cut_5 rfl (fun r1 σ1 τ1 h => ?_)
  refine sx_if_eq (tgt := 22) (pc2 := 11) hX d_St_cut_8 (by decide) rfl (fun hc2 => ?_) (fun hc2 => ?_)
  · replace h := sx_t h hc2
    refine sx_sub [] [] rfl ?_
    exact g_St_cut_b22 hX hK hE   _ _ h
  · replace h := sx_f h hc2
    refine sx_aload_n (pc2 := 12) hX 0 d_St_cut_11 rfl rfl rfl ?_
    refine fg_St_35 (pc2 := 15) hX (hK 0 0 0 (by decide) (by decide)) d_St_cut_12 rfl ?_
    refine sx_iload_n (pc2 := 16) hX 1 d_St_cut_15 rfl rfl rfl ?_
    refine cl_St_131 (pc2 := 19) hX hK h (by decide) ⟨Nat.le_of_ble_eq_true rfl, Nat.le_of_ble_eq_true rfl⟩ (Nat.le_of_ble_eq_true rfl) d_St_cut_16 rfl (fun r3 σ3 τ3 h => ?_)
    refine sx_if_ne (tgt := 24) (pc2 := 22) hX d_St_cut_19 (by decide) rfl (fun hc4 => ?_) (fun hc4 => ?_)
    · replace h := sx_f h hc4
      refine sx_aload_n (pc2 := 25) hX 0 d_St_cut_24 rfl rfl rfl ?_
      refine fg_St_57 (pc2 := 28) hX (hK 0 0 0 (by decide) (by decide)) d_St_cut_25 rfl ?_
      refine sx_aload_n (pc2 := 29) hX 0 d_St_cut_28 rfl rfl rfl ?_
      refine fg_St_35 (pc2 := 32) hX (hK 0 0 0 (by decide) (by decide)) d_St_cut_29 rfl ?_
      refine sx_iconst (v := (-1)) (pc2 := 33) hX d_St_cut_32 (by decide) rfl ?_
      refine cl_St_221 (pc2 := 36) hX hK h (by decide) ⟨Nat.le_of_ble_eq_true rfl, Nat.le_of_ble_eq_true rfl⟩ (Nat.le_of_ble_eq_true rfl) d_St_cut_33 rfl (fun σ5 τ5 h => ?_)
      refine sx_aload_n (pc2 := 37) hX 0 d_St_cut_36 rfl rfl rfl ?_
      refine fg_St_57 (pc2 := 40) hX (hK 0 0 0 (by decide) (by decide)) d_St_cut_37 rfl ?_
      refine sx_aload_n (pc2 := 41) hX 0 d_St_cut_40 rfl rfl rfl ?_
      refine fg_St_35 (pc2 := 44) hX (hK 0 0 0 (by decide) (by decide)) d_St_cut_41 rfl ?_
      refine cl_St_251 (pc2 := 47) hX hK h (by decide) ⟨Nat.le_of_ble_eq_true rfl, Nat.le_of_ble_eq_true rfl⟩ (Nat.le_of_ble_eq_true rfl) d_St_cut_44 rfl (fun r6 σ6 τ6 h => ?_)
      refine sx_istore_n (pc2 := 48) hX _ [(0, .ref (K.2.2.1 0 0 0)), (1, .int x1), (2, .int r6)] [1, 2, 0] d_St_cut_47 rfl (by decide) rfl rfl rfl ?_
      refine sx_aload_n (pc2 := 49) hX 0 d_St_cut_48 rfl rfl rfl ?_
      refine fg_St_57 (pc2 := 52) hX (hK 0 0 0 (by decide) (by decide)) d_St_cut_49 rfl ?_
      refine sx_aload_n (pc2 := 53) hX 0 d_St_cut_52 rfl rfl rfl ?_
      refine fg_St_35 (pc2 := 56) hX (hK 0 0 0 (by decide) (by decide)) d_St_cut_53 rfl ?_
      refine sx_iload_n (pc2 := 57) hX 1 d_St_cut_56 rfl rfl rfl ?_
      refine cl_St_221 (pc2 := 60) hX hK h (by decide) ⟨Nat.le_of_ble_eq_true rfl, Nat.le_of_ble_eq_true rfl⟩ (Nat.le_of_ble_eq_true rfl) d_St_cut_57 rfl (fun σ7 τ7 h => ?_)
      refine sx_iload_n (pc2 := 61) hX 2 d_St_cut_60 rfl rfl rfl ?_
      refine sx_aload_n (pc2 := 62) hX 0 d_St_cut_61 rfl rfl rfl ?_
      refine fg_St_57 (pc2 := 65) hX (hK 0 0 0 (by decide) (by decide)) d_St_cut_62 rfl ?_
      refine sx_aload_n (pc2 := 66) hX 0 d_St_cut_65 rfl rfl rfl ?_
      refine fg_St_35 (pc2 := 69) hX (hK 0 0 0 (by decide) (by decide)) d_St_cut_66 rfl ?_
      refine cl_St_251 (pc2 := 72) hX hK h (by decide) ⟨Nat.le_of_ble_eq_true rfl, Nat.le_of_ble_eq_true rfl⟩ (Nat.le_of_ble_eq_true rfl) d_St_cut_69 rfl (fun r8 σ8 τ8 h => ?_)
      refine sx_isub (pc2 := 73) hX d_St_cut_72 rfl ?_
      exact sx_iret hX hE h d_St_cut_73
    · replace h := sx_t h hc4
      refine sx_sub [] [] rfl ?_
      exact g_St_cut_b22 hX hK hE   _ _ h
def y_St_needs : MethodName := ⟨"SensorTree", "needs", "(I)I"⟩
theorem hy_St_needs : y_St_needs.cls ≠ "java/lang/invoke/MethodHandle" ∧ y_St_needs.cls ≠ "java/lang/invoke/VarHandle" ∧ (parseMethodDescriptor y_St_needs.desc).map (fun d => d.parameters.length) = some 1 := by decide +kernel
theorem d_St_needs_0 : decode prog_1_method_28_code 0 = .ok (.aload_n 0, 1) := by decide +kernel
theorem d_St_needs_1 : decode prog_1_method_28_code 1 = .ok (.iload_n 1, 1) := by decide +kernel
theorem d_St_needs_2 : decode prog_1_method_28_code 2 = .ok (.invokevirtual 218, 3) := by decide +kernel
theorem d_St_needs_5 : decode prog_1_method_28_code 5 = .ok (.ifCond .ne 5, 3) := by decide +kernel
theorem d_St_needs_8 : decode prog_1_method_28_code 8 = .ok (.iconst (-1), 1) := by decide +kernel
theorem d_St_needs_9 : decode prog_1_method_28_code 9 = .ok (.ireturn, 1) := by decide +kernel
theorem d_St_needs_10 : decode prog_1_method_28_code 10 = .ok (.aload_n 0, 1) := by decide +kernel
theorem d_St_needs_11 : decode prog_1_method_28_code 11 = .ok (.getfield 57, 3) := by decide +kernel
theorem d_St_needs_14 : decode prog_1_method_28_code 14 = .ok (.aload_n 0, 1) := by decide +kernel
theorem d_St_needs_15 : decode prog_1_method_28_code 15 = .ok (.getfield 35, 3) := by decide +kernel
theorem d_St_needs_18 : decode prog_1_method_28_code 18 = .ok (.iconst (-1), 1) := by decide +kernel
theorem d_St_needs_19 : decode prog_1_method_28_code 19 = .ok (.invokevirtual 221, 3) := by decide +kernel
theorem d_St_needs_22 : decode prog_1_method_28_code 22 = .ok (.aload_n 0, 1) := by decide +kernel
theorem d_St_needs_23 : decode prog_1_method_28_code 23 = .ok (.getfield 57, 3) := by decide +kernel
theorem d_St_needs_26 : decode prog_1_method_28_code 26 = .ok (.getfield 225, 3) := by decide +kernel
theorem d_St_needs_29 : decode prog_1_method_28_code 29 = .ok (.iload_n 1, 1) := by decide +kernel
theorem d_St_needs_30 : decode prog_1_method_28_code 30 = .ok (.iaload, 1) := by decide +kernel
theorem d_St_needs_31 : decode prog_1_method_28_code 31 = .ok (.istore_n 2, 1) := by decide +kernel
theorem d_St_needs_32 : decode prog_1_method_28_code 32 = .ok (.iconst 0, 1) := by decide +kernel
theorem d_St_needs_33 : decode prog_1_method_28_code 33 = .ok (.istore_n 3, 1) := by decide +kernel
theorem d_St_needs_34 : decode prog_1_method_28_code 34 = .ok (.iconst 0, 1) := by decide +kernel
theorem d_St_needs_35 : decode prog_1_method_28_code 35 = .ok (.istore 4, 2) := by decide +kernel
theorem d_St_needs_37 : decode prog_1_method_28_code 37 = .ok (.iload 4, 2) := by decide +kernel
theorem d_St_needs_39 : decode prog_1_method_28_code 39 = .ok (.aload_n 0, 1) := by decide +kernel
theorem d_St_needs_40 : decode prog_1_method_28_code 40 = .ok (.getfield 26, 3) := by decide +kernel
theorem d_St_needs_43 : decode prog_1_method_28_code 43 = .ok (.getfield 255, 3) := by decide +kernel
theorem d_St_needs_46 : decode prog_1_method_28_code 46 = .ok (.if_icmp .ge 58, 3) := by decide +kernel
theorem d_St_needs_49 : decode prog_1_method_28_code 49 = .ok (.aload_n 0, 1) := by decide +kernel
theorem d_St_needs_50 : decode prog_1_method_28_code 50 = .ok (.getfield 35, 3) := by decide +kernel
theorem d_St_needs_53 : decode prog_1_method_28_code 53 = .ok (.iload 4, 2) := by decide +kernel
theorem d_St_needs_55 : decode prog_1_method_28_code 55 = .ok (.invokevirtual 131, 3) := by decide +kernel
theorem d_St_needs_58 : decode prog_1_method_28_code 58 = .ok (.ifCond .eq 40, 3) := by decide +kernel
theorem d_St_needs_61 : decode prog_1_method_28_code 61 = .ok (.aload_n 0, 1) := by decide +kernel
theorem d_St_needs_62 : decode prog_1_method_28_code 62 = .ok (.getfield 57, 3) := by decide +kernel
theorem d_St_needs_65 : decode prog_1_method_28_code 65 = .ok (.aload_n 0, 1) := by decide +kernel
theorem d_St_needs_66 : decode prog_1_method_28_code 66 = .ok (.getfield 35, 3) := by decide +kernel
theorem d_St_needs_69 : decode prog_1_method_28_code 69 = .ok (.iload 4, 2) := by decide +kernel
theorem d_St_needs_71 : decode prog_1_method_28_code 71 = .ok (.invokevirtual 221, 3) := by decide +kernel
theorem d_St_needs_74 : decode prog_1_method_28_code 74 = .ok (.iload_n 3, 1) := by decide +kernel
theorem d_St_needs_75 : decode prog_1_method_28_code 75 = .ok (.aload_n 0, 1) := by decide +kernel
theorem d_St_needs_76 : decode prog_1_method_28_code 76 = .ok (.getfield 57, 3) := by decide +kernel
theorem d_St_needs_79 : decode prog_1_method_28_code 79 = .ok (.getfield 225, 3) := by decide +kernel
theorem d_St_needs_82 : decode prog_1_method_28_code 82 = .ok (.iload_n 1, 1) := by decide +kernel
theorem d_St_needs_83 : decode prog_1_method_28_code 83 = .ok (.iaload, 1) := by decide +kernel
theorem d_St_needs_84 : decode prog_1_method_28_code 84 = .ok (.iload_n 2, 1) := by decide +kernel
theorem d_St_needs_85 : decode prog_1_method_28_code 85 = .ok (.if_icmp .le 10, 3) := by decide +kernel
theorem d_St_needs_88 : decode prog_1_method_28_code 88 = .ok (.iconst 1, 1) := by decide +kernel
theorem d_St_needs_89 : decode prog_1_method_28_code 89 = .ok (.iload 4, 2) := by decide +kernel
theorem d_St_needs_91 : decode prog_1_method_28_code 91 = .ok (.ishl, 1) := by decide +kernel
theorem d_St_needs_92 : decode prog_1_method_28_code 92 = .ok (.goto 4, 3) := by decide +kernel
theorem d_St_needs_95 : decode prog_1_method_28_code 95 = .ok (.iconst 0, 1) := by decide +kernel
theorem d_St_needs_96 : decode prog_1_method_28_code 96 = .ok (.ior, 1) := by decide +kernel
theorem d_St_needs_97 : decode prog_1_method_28_code 97 = .ok (.istore_n 3, 1) := by decide +kernel
theorem d_St_needs_98 : decode prog_1_method_28_code 98 = .ok (.iinc 4 1, 3) := by decide +kernel
theorem d_St_needs_101 : decode prog_1_method_28_code 101 = .ok (.goto (-64), 3) := by decide +kernel
theorem d_St_needs_104 : decode prog_1_method_28_code 104 = .ok (.iload_n 3, 1) := by decide +kernel
theorem d_St_needs_105 : decode prog_1_method_28_code 105 = .ok (.ireturn, 1) := by decide +kernel
def wp_St_needs_b98  (k37 : Int32 → Int32 → Int32 → Int32 → sx_M → Prop) (Q : Int32 → sx_M → Prop) (v1 : Int32) (v2 : Int32) (v3 : Int32) (v4 : Int32) (σ : sx_M) : Prop := k37 v1 v2 v3 (v4 + 1) σ
def wp_St_needs_b96  (k37 : Int32 → Int32 → Int32 → Int32 → sx_M → Prop) (Q : Int32 → sx_M → Prop) (v1 : Int32) (v2 : Int32) (v4 : Int32) (w0 : Int32) (w1 : Int32) (σ : sx_M) : Prop := wp_St_needs_b98 k37 Q v1 v2 (w0 ||| w1) v4 σ
def wp_St_needs_b37   (Q : Int32 → sx_M → Prop) : Nat → Int32 → Int32 → Int32 → Int32 → sx_M → Prop
  | 0, _, _, _, _, _ => False
  | f + 1, v1, v2, v3, v4, σ => if σ 8 0 0 1 ≤ v4 then (Q v3 σ) else (wp_Ne_isUp 0 v4 σ (fun r2 σ2 => if r2 = 0 then (wp_St_needs_b98 (wp_St_needs_b37 Q f) Q v1 v2 v3 v4 σ2) else (wp_Tr_reckon 0 v4 σ2 (fun σ4 => vp_in v1 7 ∧ (if σ4 33 0 0 v1.toNatClampNeg ≤ v2 then (wp_St_needs_b96 (wp_St_needs_b37 Q f) Q v1 v2 v4 v3 0 σ4) else (wp_St_needs_b96 (wp_St_needs_b37 Q f) Q v1 v2 v4 v3 (1 <<< (v4 &&& 31)) σ4))))))
def wp_St_needs (x1 : Int32) (σ : sx_M) (Q : Int32 → sx_M → Prop) : Prop := wp_St_isOn x1 σ (fun r7 σ7 => if r7 = 0 then (Q (-1) σ7) else (wp_Tr_reckon 0 (-1 : Int32) σ7 (fun σ9 => vp_in x1 7 ∧ (∃ f37, wp_St_needs_b37 Q f37 x1 (σ9 33 0 0 x1.toNatClampNeg) 0 0 σ9))))
abbrev rm_St_needs : Room := { frames := 2, cells := 0, slots := 0, locals := 51 }
set_option maxRecDepth 100000 in
set_option maxHeartbeats 4000000 in
theorem g_St_needs_b98 {l : Launch} {K : sx_K} {X : sx_T}  {k37 : Int32 → Int32 → Int32 → Int32 → sx_M → Prop} {Q : Int32 → sx_M → Prop} (hX : sx_C X K prog_1_method_28_code 5 "SensorTree" (some .int) rm_St_needs l) (hK : kx_C K) (hE : sx_E X K (sx_Qi K (fun r σ _ => Q r σ)))  (hk37 : ∀ (v1 : Int32) (v2 : Int32) (v3 : Int32) (v4 : Int32) (σ : sx_M) (τ : sx_L) , k37 v1 v2 v3 v4 σ → sx_G X K 5 37 [(0, .ref (K.2.2.1 0 0 0)), (1, .int v1), (2, .int v2), (3, .int v3), (4, .int v4)] [] (sx_H K σ τ)) (v1 : Int32) (v2 : Int32) (v3 : Int32) (v4 : Int32) (σ : sx_M) (τ : sx_L)  (h : wp_St_needs_b98 k37 Q  v1 v2 v3 v4 σ) : sx_G X K 5 98 [(0, .ref (K.2.2.1 0 0 0)), (1, .int v1), (2, .int v2), (3, .int v3), (4, .int v4)] [] (sx_H K σ τ) := by
  unfold wp_St_needs_b98 at h
  refine sx_iinc (pc2 := 101) hX 4 _ [(0, .ref (K.2.2.1 0 0 0)), (1, .int v1), (2, .int v2), (3, .int v3), (4, .int (v4 + 1))] [1, 2, 3, 4, 0] d_St_needs_98 rfl (v4 + 1) rfl (by decide) rfl rfl rfl ?_
  refine sx_goto (tgt := 37) hX d_St_needs_101 (by decide) ?_
  exact hk37 v1 v2 v3 (v4 + 1) _ _ h
set_option maxRecDepth 100000 in
set_option maxHeartbeats 4000000 in
theorem g_St_needs_b96 {l : Launch} {K : sx_K} {X : sx_T}  {k37 : Int32 → Int32 → Int32 → Int32 → sx_M → Prop} {Q : Int32 → sx_M → Prop} (hX : sx_C X K prog_1_method_28_code 5 "SensorTree" (some .int) rm_St_needs l) (hK : kx_C K) (hE : sx_E X K (sx_Qi K (fun r σ _ => Q r σ)))  (hk37 : ∀ (v1 : Int32) (v2 : Int32) (v3 : Int32) (v4 : Int32) (σ : sx_M) (τ : sx_L) , k37 v1 v2 v3 v4 σ → sx_G X K 5 37 [(0, .ref (K.2.2.1 0 0 0)), (1, .int v1), (2, .int v2), (3, .int v3), (4, .int v4)] [] (sx_H K σ τ)) (v1 : Int32) (v2 : Int32) (v4 : Int32) (w0 : Int32) (w1 : Int32) (σ : sx_M) (τ : sx_L)  (h : wp_St_needs_b96 k37 Q  v1 v2 v4 w0 w1 σ) : sx_G X K 5 96 [(0, .ref (K.2.2.1 0 0 0)), (1, .int v1), (2, .int v2), (4, .int v4)] [.int w1, .int w0] (sx_H K σ τ) := by
  unfold wp_St_needs_b96 at h
  refine sx_ior (pc2 := 97) hX d_St_needs_96 rfl ?_
  refine sx_istore_n (pc2 := 98) hX _ [(0, .ref (K.2.2.1 0 0 0)), (1, .int v1), (2, .int v2), (3, .int (w0 ||| w1)), (4, .int v4)] [1, 2, 3, 0, 4] d_St_needs_97 rfl (by decide) rfl rfl rfl ?_
  exact g_St_needs_b98 hX hK hE  hk37 v1 v2 (w0 ||| w1) v4 _ _ h
set_option maxRecDepth 100000 in
set_option maxHeartbeats 4000000 in
theorem g_St_needs_b37 {l : Launch} {K : sx_K} {X : sx_T}   {Q : Int32 → sx_M → Prop} (hX : sx_C X K prog_1_method_28_code 5 "SensorTree" (some .int) rm_St_needs l) (hK : kx_C K) (hE : sx_E X K (sx_Qi K (fun r σ _ => Q r σ)))  : ∀ (f : Nat) (v1 : Int32) (v2 : Int32) (v3 : Int32) (v4 : Int32) (σ : sx_M) (τ : sx_L) , wp_St_needs_b37 Q f v1 v2 v3 v4 σ → sx_G X K 5 37 [(0, .ref (K.2.2.1 0 0 0)), (1, .int v1), (2, .int v2), (3, .int v3), (4, .int v4)] [] (sx_H K σ τ) := by
  intro f
  induction f with
  | zero => intro v1 v2 v3 v4 σ τ h; exact (show False from h).elim
  | succ f ih =>
    intro v1 v2 v3 v4 σ τ h
    rw [wp_St_needs_b37] at h
    refine sx_iload (pc2 := 39) hX 4 d_St_needs_37 rfl rfl ?_
    refine sx_aload_n (pc2 := 40) hX 0 d_St_needs_39 rfl rfl rfl ?_
    refine fg_St_26 (pc2 := 43) hX (hK 0 0 0 (by decide) (by decide)) d_St_needs_40 rfl ?_
    refine fg_St_255 (pc2 := 46) hX (hK 8 0 0 (by decide) (by decide)) d_St_needs_43 rfl ?_
    refine sx_icmp_ge (tgt := 104) (pc2 := 49) hX d_St_needs_46 (by decide) rfl (fun hc1 => ?_) (fun hc1 => ?_)
    · replace h := sx_t h hc1
      refine sx_iload_n (pc2 := 105) hX 3 d_St_needs_104 rfl rfl rfl ?_
      exact sx_iret hX hE h d_St_needs_105
    · replace h := sx_f h hc1
      refine sx_aload_n (pc2 := 50) hX 0 d_St_needs_49 rfl rfl rfl ?_
      refine fg_St_35 (pc2 := 53) hX (hK 0 0 0 (by decide) (by decide)) d_St_needs_50 rfl ?_
      refine sx_iload (pc2 := 55) hX 4 d_St_needs_53 rfl rfl ?_
      refine cl_St_131 (pc2 := 58) hX hK h (by decide) ⟨Nat.le_of_ble_eq_true rfl, Nat.le_of_ble_eq_true rfl⟩ (Nat.le_of_ble_eq_true rfl) d_St_needs_55 rfl (fun r2 σ2 τ2 h => ?_)
      refine sx_if_eq (tgt := 98) (pc2 := 61) hX d_St_needs_58 (by decide) rfl (fun hc3 => ?_) (fun hc3 => ?_)
      · replace h := sx_t h hc3
        exact g_St_needs_b98 hX hK hE  ih v1 v2 v3 v4 _ _ h
      · replace h := sx_f h hc3
        refine sx_aload_n (pc2 := 62) hX 0 d_St_needs_61 rfl rfl rfl ?_
        refine fg_St_57 (pc2 := 65) hX (hK 0 0 0 (by decide) (by decide)) d_St_needs_62 rfl ?_
        refine sx_aload_n (pc2 := 66) hX 0 d_St_needs_65 rfl rfl rfl ?_
        refine fg_St_35 (pc2 := 69) hX (hK 0 0 0 (by decide) (by decide)) d_St_needs_66 rfl ?_
        refine sx_iload (pc2 := 71) hX 4 d_St_needs_69 rfl rfl ?_
        refine cl_St_221 (pc2 := 74) hX hK h (by decide) ⟨Nat.le_of_ble_eq_true rfl, Nat.le_of_ble_eq_true rfl⟩ (Nat.le_of_ble_eq_true rfl) d_St_needs_71 rfl (fun σ4 τ4 h => ?_)
        refine sx_iload_n (pc2 := 75) hX 3 d_St_needs_74 rfl rfl rfl ?_
        refine sx_aload_n (pc2 := 76) hX 0 d_St_needs_75 rfl rfl rfl ?_
        refine fg_St_57 (pc2 := 79) hX (hK 0 0 0 (by decide) (by decide)) d_St_needs_76 rfl ?_
        refine fg_St_225 (pc2 := 82) hX (hK 32 0 0 (by decide) (by decide)) d_St_needs_79 rfl ?_
        refine sx_iload_n (pc2 := 83) hX 1 d_St_needs_82 rfl rfl rfl ?_
        obtain ⟨hc5, h⟩ := h
        refine sx_iald (pc2 := 84) hX (hK 33 0 0 (by decide) (by decide)) rfl hc5 d_St_needs_83 rfl ?_
        refine sx_iload_n (pc2 := 85) hX 2 d_St_needs_84 rfl rfl rfl ?_
        refine sx_icmp_le (tgt := 95) (pc2 := 88) hX d_St_needs_85 (by decide) rfl (fun hc6 => ?_) (fun hc6 => ?_)
        · replace h := sx_t h hc6
          refine sx_iconst (v := 0) (pc2 := 96) hX d_St_needs_95 (by decide) rfl ?_
          refine sx_sub [(0, .ref (K.2.2.1 0 0 0)), (1, .int v1), (2, .int v2), (4, .int v4)] [0, 1, 2, 4] rfl ?_
          exact g_St_needs_b96 hX hK hE  ih v1 v2 v4 v3 0 _ _ h
        · replace h := sx_f h hc6
          refine sx_iconst (v := 1) (pc2 := 89) hX d_St_needs_88 (by decide) rfl ?_
          refine sx_iload (pc2 := 91) hX 4 d_St_needs_89 rfl rfl ?_
          refine sx_ishl (pc2 := 92) hX d_St_needs_91 rfl ?_
          refine sx_goto (tgt := 96) hX d_St_needs_92 (by decide) ?_
          refine sx_sub [(0, .ref (K.2.2.1 0 0 0)), (1, .int v1), (2, .int v2), (4, .int v4)] [0, 1, 2, 4] rfl ?_
          exact g_St_needs_b96 hX hK hE  ih v1 v2 v4 v3 (1 <<< (v4 &&& 31)) _ _ h
set_option maxRecDepth 100000 in
set_option maxHeartbeats 4000000 in
theorem c_St_needs {l : Launch} {K : sx_K} (hK : kx_C K) (x1 : Int32) (σ : sx_M) (τ : sx_L) (Q : Int32 → sx_M → Prop)  (h : wp_St_needs x1 σ Q) : Met l y_St_needs (sx_wd y_St_needs prog_1_method_28_code 5 (some .int)) rm_St_needs (sx_Pc K [.ref (K.2.2.1 0 0 0), .int x1] σ τ) (sx_Qi K (fun r σ _ => Q r σ)) 0 0 (sx_A K) := by
  refine sx_met (by decide) (Nat.le_of_ble_eq_true rfl) (fun X hX hE => ?_)
  replace hX : sx_C X K prog_1_method_28_code 5 "SensorTree" (some .int) rm_St_needs l := hX
  show sx_G X K 5 0 [(0, .ref (K.2.2.1 0 0 0)), (1, .int x1)] [] (sx_H K σ τ)
  unfold wp_St_needs at h
  refine sx_aload_n (pc2 := 1) hX 0 d_St_needs_0 rfl rfl rfl ?_
  refine sx_iload_n (pc2 := 2) hX 1 d_St_needs_1 rfl rfl rfl ?_
  refine cl_St_218 (pc2 := 5) hX hK h  ⟨Nat.le_of_ble_eq_true rfl, Nat.le_of_ble_eq_true rfl⟩ (Nat.le_of_ble_eq_true rfl) d_St_needs_2 rfl (fun r7 σ7 τ7 h => ?_)
  refine sx_if_ne (tgt := 10) (pc2 := 8) hX d_St_needs_5 (by decide) rfl (fun hc8 => ?_) (fun hc8 => ?_)
  · replace h := sx_f h hc8
    refine sx_aload_n (pc2 := 11) hX 0 d_St_needs_10 rfl rfl rfl ?_
    refine fg_St_57 (pc2 := 14) hX (hK 0 0 0 (by decide) (by decide)) d_St_needs_11 rfl ?_
    refine sx_aload_n (pc2 := 15) hX 0 d_St_needs_14 rfl rfl rfl ?_
    refine fg_St_35 (pc2 := 18) hX (hK 0 0 0 (by decide) (by decide)) d_St_needs_15 rfl ?_
    refine sx_iconst (v := (-1)) (pc2 := 19) hX d_St_needs_18 (by decide) rfl ?_
    refine cl_St_221 (pc2 := 22) hX hK h (by decide) ⟨Nat.le_of_ble_eq_true rfl, Nat.le_of_ble_eq_true rfl⟩ (Nat.le_of_ble_eq_true rfl) d_St_needs_19 rfl (fun σ9 τ9 h => ?_)
    refine sx_aload_n (pc2 := 23) hX 0 d_St_needs_22 rfl rfl rfl ?_
    refine fg_St_57 (pc2 := 26) hX (hK 0 0 0 (by decide) (by decide)) d_St_needs_23 rfl ?_
    refine fg_St_225 (pc2 := 29) hX (hK 32 0 0 (by decide) (by decide)) d_St_needs_26 rfl ?_
    refine sx_iload_n (pc2 := 30) hX 1 d_St_needs_29 rfl rfl rfl ?_
    obtain ⟨hc10, h⟩ := h
    refine sx_iald (pc2 := 31) hX (hK 33 0 0 (by decide) (by decide)) rfl hc10 d_St_needs_30 rfl ?_
    refine sx_istore_n (pc2 := 32) hX _ [(0, .ref (K.2.2.1 0 0 0)), (1, .int x1), (2, .int (σ9 33 0 0 x1.toNatClampNeg))] [1, 2, 0] d_St_needs_31 rfl (by decide) rfl rfl rfl ?_
    refine sx_iconst (v := 0) (pc2 := 33) hX d_St_needs_32 (by decide) rfl ?_
    refine sx_istore_n (pc2 := 34) hX _ [(0, .ref (K.2.2.1 0 0 0)), (1, .int x1), (2, .int (σ9 33 0 0 x1.toNatClampNeg)), (3, .int 0)] [1, 2, 3, 0] d_St_needs_33 rfl (by decide) rfl rfl rfl ?_
    refine sx_iconst (v := 0) (pc2 := 35) hX d_St_needs_34 (by decide) rfl ?_
    refine sx_istore (pc2 := 37) hX _ [(0, .ref (K.2.2.1 0 0 0)), (1, .int x1), (2, .int (σ9 33 0 0 x1.toNatClampNeg)), (3, .int 0), (4, .int 0)] [1, 2, 3, 4, 0] d_St_needs_35 (by decide) rfl rfl rfl ?_
    obtain ⟨f37, h⟩ := h
    exact g_St_needs_b37 hX hK hE   f37 x1 (σ9 33 0 0 x1.toNatClampNeg) 0 0 _ _ h
  · replace h := sx_t h hc8
    refine sx_iconst (v := (-1)) (pc2 := 9) hX d_St_needs_8 (by decide) rfl ?_
    exact sx_iret hX hE h d_St_needs_9
def y_St_spare : MethodName := ⟨"SensorTree", "spare", "(I)I"⟩
theorem hy_St_spare : y_St_spare.cls ≠ "java/lang/invoke/MethodHandle" ∧ y_St_spare.cls ≠ "java/lang/invoke/VarHandle" ∧ (parseMethodDescriptor y_St_spare.desc).map (fun d => d.parameters.length) = some 1 := by decide +kernel
theorem d_St_spare_0 : decode prog_1_method_29_code 0 = .ok (.aload_n 0, 1) := by decide +kernel
theorem d_St_spare_1 : decode prog_1_method_29_code 1 = .ok (.iload_n 1, 1) := by decide +kernel
theorem d_St_spare_2 : decode prog_1_method_29_code 2 = .ok (.invokevirtual 218, 3) := by decide +kernel
theorem d_St_spare_5 : decode prog_1_method_29_code 5 = .ok (.ifCond .eq 24, 3) := by decide +kernel
theorem d_St_spare_8 : decode prog_1_method_29_code 8 = .ok (.iload_n 1, 1) := by decide +kernel
theorem d_St_spare_9 : decode prog_1_method_29_code 9 = .ok (.ifCond .eq 20, 3) := by decide +kernel
theorem d_St_spare_12 : decode prog_1_method_29_code 12 = .ok (.aload_n 0, 1) := by decide +kernel
theorem d_St_spare_13 : decode prog_1_method_29_code 13 = .ok (.getfield 35, 3) := by decide +kernel
theorem d_St_spare_16 : decode prog_1_method_29_code 16 = .ok (.getfield 147, 3) := by decide +kernel
theorem d_St_spare_19 : decode prog_1_method_29_code 19 = .ok (.iload_n 1, 1) := by decide +kernel
theorem d_St_spare_20 : decode prog_1_method_29_code 20 = .ok (.aaload, 1) := by decide +kernel
theorem d_St_spare_21 : decode prog_1_method_29_code 21 = .ok (.getfield 235, 3) := by decide +kernel
theorem d_St_spare_24 : decode prog_1_method_29_code 24 = .ok (.bipush (-2), 2) := by decide +kernel
theorem d_St_spare_26 : decode prog_1_method_29_code 26 = .ok (.if_icmp .ne 5, 3) := by decide +kernel
theorem d_St_spare_29 : decode prog_1_method_29_code 29 = .ok (.iconst (-1), 1) := by decide +kernel
theorem d_St_spare_30 : decode prog_1_method_29_code 30 = .ok (.ireturn, 1) := by decide +kernel
theorem d_St_spare_31 : decode prog_1_method_29_code 31 = .ok (.aload_n 0, 1) := by decide +kernel
theorem d_St_spare_32 : decode prog_1_method_29_code 32 = .ok (.getfield 35, 3) := by decide +kernel
theorem d_St_spare_35 : decode prog_1_method_29_code 35 = .ok (.iload_n 1, 1) := by decide +kernel
theorem d_St_spare_36 : decode prog_1_method_29_code 36 = .ok (.aload_n 0, 1) := by decide +kernel
theorem d_St_spare_37 : decode prog_1_method_29_code 37 = .ok (.getfield 35, 3) := by decide +kernel
theorem d_St_spare_40 : decode prog_1_method_29_code 40 = .ok (.getfield 147, 3) := by decide +kernel
theorem d_St_spare_43 : decode prog_1_method_29_code 43 = .ok (.iload_n 1, 1) := by decide +kernel
theorem d_St_spare_44 : decode prog_1_method_29_code 44 = .ok (.aaload, 1) := by decide +kernel
theorem d_St_spare_45 : decode prog_1_method_29_code 45 = .ok (.getfield 235, 3) := by decide +kernel
theorem d_St_spare_48 : decode prog_1_method_29_code 48 = .ok (.invokevirtual 258, 3) := by decide +kernel
theorem d_St_spare_51 : decode prog_1_method_29_code 51 = .ok (.ireturn, 1) := by decide +kernel
def wp_St_spare_b29   (Q : Int32 → sx_M → Prop)  (σ : sx_M) : Prop := Q (-1) σ
def wp_St_spare (x1 : Int32) (σ : sx_M) (Q : Int32 → sx_M → Prop) : Prop := wp_St_isOn x1 σ (fun r1 σ1 => if r1 = 0 then (wp_St_spare_b29 Q σ1) else (if x1 = 0 then (wp_St_spare_b29 Q σ1) else (vp_in x1 7 ∧ (if σ1 27 0 x1.toNatClampNeg 3 = (-2) then (wp_St_spare_b29 Q σ1) else (vp_in x1 7 ∧ (wp_Ne_bestOffer 0 x1 (σ1 27 0 x1.toNatClampNeg 3) σ1 (fun r7 σ7 => Q r7 σ7)))))))
abbrev rm_St_spare : Room := { frames := 3, cells := 0, slots := 0, locals := 71 }
set_option maxRecDepth 100000 in
set_option maxHeartbeats 4000000 in
theorem g_St_spare_b29 {l : Launch} {K : sx_K} {X : sx_T}   {Q : Int32 → sx_M → Prop} (hX : sx_C X K prog_1_method_29_code 2 "SensorTree" (some .int) rm_St_spare l) (hK : kx_C K) (hE : sx_E X K (sx_Qi K (fun r σ _ => Q r σ)))   (σ : sx_M) (τ : sx_L)  (h : wp_St_spare_b29 Q  σ) : sx_G X K 2 29 [] [] (sx_H K σ τ) := by
  unfold wp_St_spare_b29 at h
  refine sx_iconst (v := (-1)) (pc2 := 30) hX d_St_spare_29 (by decide) rfl ?_
  exact sx_iret hX hE h d_St_spare_30
set_option maxRecDepth 100000 in
set_option maxHeartbeats 4000000 in
theorem c_St_spare {l : Launch} {K : sx_K} (hK : kx_C K) (x1 : Int32) (σ : sx_M) (τ : sx_L) (Q : Int32 → sx_M → Prop)  (h : wp_St_spare x1 σ Q) : Met l y_St_spare (sx_wd y_St_spare prog_1_method_29_code 2 (some .int)) rm_St_spare (sx_Pc K [.ref (K.2.2.1 0 0 0), .int x1] σ τ) (sx_Qi K (fun r σ _ => Q r σ)) 0 0 (sx_A K) := by
  refine sx_met (by decide) (Nat.le_of_ble_eq_true rfl) (fun X hX hE => ?_)
  replace hX : sx_C X K prog_1_method_29_code 2 "SensorTree" (some .int) rm_St_spare l := hX
  show sx_G X K 2 0 [(0, .ref (K.2.2.1 0 0 0)), (1, .int x1)] [] (sx_H K σ τ)
  unfold wp_St_spare at h
  refine sx_aload_n (pc2 := 1) hX 0 d_St_spare_0 rfl rfl rfl ?_
  refine sx_iload_n (pc2 := 2) hX 1 d_St_spare_1 rfl rfl rfl ?_
  refine cl_St_218 (pc2 := 5) hX hK h  ⟨Nat.le_of_ble_eq_true rfl, Nat.le_of_ble_eq_true rfl⟩ (Nat.le_of_ble_eq_true rfl) d_St_spare_2 rfl (fun r1 σ1 τ1 h => ?_)
  refine sx_if_eq (tgt := 29) (pc2 := 8) hX d_St_spare_5 (by decide) rfl (fun hc2 => ?_) (fun hc2 => ?_)
  · replace h := sx_t h hc2
    refine sx_sub [] [] rfl ?_
    exact g_St_spare_b29 hX hK hE   _ _ h
  · replace h := sx_f h hc2
    refine sx_iload_n (pc2 := 9) hX 1 d_St_spare_8 rfl rfl rfl ?_
    refine sx_if_eq (tgt := 29) (pc2 := 12) hX d_St_spare_9 (by decide) rfl (fun hc3 => ?_) (fun hc3 => ?_)
    · replace h := sx_t h hc3
      refine sx_sub [] [] rfl ?_
      exact g_St_spare_b29 hX hK hE   _ _ h
    · replace h := sx_f h hc3
      refine sx_aload_n (pc2 := 13) hX 0 d_St_spare_12 rfl rfl rfl ?_
      refine fg_St_35 (pc2 := 16) hX (hK 0 0 0 (by decide) (by decide)) d_St_spare_13 rfl ?_
      refine fg_St_147 (pc2 := 19) hX (hK 16 0 0 (by decide) (by decide)) d_St_spare_16 rfl ?_
      refine sx_iload_n (pc2 := 20) hX 1 d_St_spare_19 rfl rfl rfl ?_
      obtain ⟨hc4, h⟩ := h
      refine sx_aald (a := K.2.2.1 27 0 x1.toNatClampNeg) (pc2 := 21) hX (hK 17 0 0 (by decide) (by decide)) 4 rfl rfl rfl hc4 d_St_spare_20 rfl ?_
      refine fg_St_235 (pc2 := 24) hX (hK 27 0 x1.toNatClampNeg (by decide) (sx_lt hc4)) d_St_spare_21 rfl ?_
      refine sx_bipush (v := (-2)) (pc2 := 26) hX d_St_spare_24 (by decide) rfl ?_
      refine sx_icmp_ne (tgt := 31) (pc2 := 29) hX d_St_spare_26 (by decide) rfl (fun hc5 => ?_) (fun hc5 => ?_)
      · replace h := sx_f h hc5
        refine sx_aload_n (pc2 := 32) hX 0 d_St_spare_31 rfl rfl rfl ?_
        refine fg_St_35 (pc2 := 35) hX (hK 0 0 0 (by decide) (by decide)) d_St_spare_32 rfl ?_
        refine sx_iload_n (pc2 := 36) hX 1 d_St_spare_35 rfl rfl rfl ?_
        refine sx_aload_n (pc2 := 37) hX 0 d_St_spare_36 rfl rfl rfl ?_
        refine fg_St_35 (pc2 := 40) hX (hK 0 0 0 (by decide) (by decide)) d_St_spare_37 rfl ?_
        refine fg_St_147 (pc2 := 43) hX (hK 16 0 0 (by decide) (by decide)) d_St_spare_40 rfl ?_
        refine sx_iload_n (pc2 := 44) hX 1 d_St_spare_43 rfl rfl rfl ?_
        obtain ⟨hc6, h⟩ := h
        refine sx_aald (a := K.2.2.1 27 0 x1.toNatClampNeg) (pc2 := 45) hX (hK 17 0 0 (by decide) (by decide)) 4 rfl rfl rfl hc6 d_St_spare_44 rfl ?_
        refine fg_St_235 (pc2 := 48) hX (hK 27 0 x1.toNatClampNeg (by decide) (sx_lt hc6)) d_St_spare_45 rfl ?_
        refine cl_St_258 (pc2 := 51) hX hK h (by decide) ⟨Nat.le_of_ble_eq_true rfl, Nat.le_of_ble_eq_true rfl⟩ (Nat.le_of_ble_eq_true rfl) d_St_spare_48 rfl (fun r7 σ7 τ7 h => ?_)
        exact sx_iret hX hE h d_St_spare_51
      · replace h := sx_t h hc5
        refine sx_sub [] [] rfl ?_
        exact g_St_spare_b29 hX hK hE   _ _ h
def y_St_deep : MethodName := ⟨"SensorTree", "deep", "()I"⟩
theorem hy_St_deep : y_St_deep.cls ≠ "java/lang/invoke/MethodHandle" ∧ y_St_deep.cls ≠ "java/lang/invoke/VarHandle" ∧ (parseMethodDescriptor y_St_deep.desc).map (fun d => d.parameters.length) = some 0 := by decide +kernel
theorem d_St_deep_0 : decode prog_1_method_30_code 0 = .ok (.iconst 0, 1) := by decide +kernel
theorem d_St_deep_1 : decode prog_1_method_30_code 1 = .ok (.istore_n 1, 1) := by decide +kernel
theorem d_St_deep_2 : decode prog_1_method_30_code 2 = .ok (.iconst 0, 1) := by decide +kernel
theorem d_St_deep_3 : decode prog_1_method_30_code 3 = .ok (.istore_n 2, 1) := by decide +kernel
theorem d_St_deep_4 : decode prog_1_method_30_code 4 = .ok (.iload_n 2, 1) := by decide +kernel
theorem d_St_deep_5 : decode prog_1_method_30_code 5 = .ok (.aload_n 0, 1) := by decide +kernel
theorem d_St_deep_6 : decode prog_1_method_30_code 6 = .ok (.getfield 26, 3) := by decide +kernel
theorem d_St_deep_9 : decode prog_1_method_30_code 9 = .ok (.getfield 160, 3) := by decide +kernel
theorem d_St_deep_12 : decode prog_1_method_30_code 12 = .ok (.if_icmp .ge 22, 3) := by decide +kernel
theorem d_St_deep_15 : decode prog_1_method_30_code 15 = .ok (.iload_n 1, 1) := by decide +kernel
theorem d_St_deep_16 : decode prog_1_method_30_code 16 = .ok (.aload_n 0, 1) := by decide +kernel
theorem d_St_deep_17 : decode prog_1_method_30_code 17 = .ok (.getfield 35, 3) := by decide +kernel
theorem d_St_deep_20 : decode prog_1_method_30_code 20 = .ok (.iload_n 2, 1) := by decide +kernel
theorem d_St_deep_21 : decode prog_1_method_30_code 21 = .ok (.invokevirtual 262, 3) := by decide +kernel
theorem d_St_deep_24 : decode prog_1_method_30_code 24 = .ok (.invokestatic 265, 3) := by decide +kernel
theorem d_St_deep_27 : decode prog_1_method_30_code 27 = .ok (.istore_n 1, 1) := by decide +kernel
theorem d_St_deep_28 : decode prog_1_method_30_code 28 = .ok (.iinc 2 1, 3) := by decide +kernel
theorem d_St_deep_31 : decode prog_1_method_30_code 31 = .ok (.goto (-27), 3) := by decide +kernel
theorem d_St_deep_34 : decode prog_1_method_30_code 34 = .ok (.iload_n 1, 1) := by decide +kernel
theorem d_St_deep_35 : decode prog_1_method_30_code 35 = .ok (.ireturn, 1) := by decide +kernel
def wp_St_deep_b4   (Q : Int32 → sx_M → Prop) : Nat → Int32 → Int32 → sx_M → Prop
  | 0, _, _, _ => False
  | f + 1, v1, v2, σ => if σ 8 0 0 0 ≤ v2 then (Q v1 σ) else (wp_Ne_depth 0 v2 σ (fun r2 σ2 => wp_St_deep_b4 Q f (if v1 < r2 then r2 else v1) (v2 + 1) σ2))
def wp_St_deep  (σ : sx_M) (Q : Int32 → sx_M → Prop) : Prop := ∃ f4, wp_St_deep_b4 Q f4 0 0 σ
abbrev rm_St_deep : Room := { frames := 2, cells := 0, slots := 0, locals := 44 }
set_option maxRecDepth 100000 in
set_option maxHeartbeats 4000000 in
theorem g_St_deep_b4 {l : Launch} {K : sx_K} {X : sx_T}   {Q : Int32 → sx_M → Prop} (hX : sx_C X K prog_1_method_30_code 3 "SensorTree" (some .int) rm_St_deep l) (hK : kx_C K) (hE : sx_E X K (sx_Qi K (fun r σ _ => Q r σ)))  : ∀ (f : Nat) (v1 : Int32) (v2 : Int32) (σ : sx_M) (τ : sx_L) , wp_St_deep_b4 Q f v1 v2 σ → sx_G X K 3 4 [(0, .ref (K.2.2.1 0 0 0)), (1, .int v1), (2, .int v2)] [] (sx_H K σ τ) := by
  intro f
  induction f with
  | zero => intro v1 v2 σ τ h; exact (show False from h).elim
  | succ f ih =>
    intro v1 v2 σ τ h
    rw [wp_St_deep_b4] at h
    refine sx_iload_n (pc2 := 5) hX 2 d_St_deep_4 rfl rfl rfl ?_
    refine sx_aload_n (pc2 := 6) hX 0 d_St_deep_5 rfl rfl rfl ?_
    refine fg_St_26 (pc2 := 9) hX (hK 0 0 0 (by decide) (by decide)) d_St_deep_6 rfl ?_
    refine fg_St_160 (pc2 := 12) hX (hK 8 0 0 (by decide) (by decide)) d_St_deep_9 rfl ?_
    refine sx_icmp_ge (tgt := 34) (pc2 := 15) hX d_St_deep_12 (by decide) rfl (fun hc1 => ?_) (fun hc1 => ?_)
    · replace h := sx_t h hc1
      refine sx_iload_n (pc2 := 35) hX 1 d_St_deep_34 rfl rfl rfl ?_
      exact sx_iret hX hE h d_St_deep_35
    · replace h := sx_f h hc1
      refine sx_iload_n (pc2 := 16) hX 1 d_St_deep_15 rfl rfl rfl ?_
      refine sx_aload_n (pc2 := 17) hX 0 d_St_deep_16 rfl rfl rfl ?_
      refine fg_St_35 (pc2 := 20) hX (hK 0 0 0 (by decide) (by decide)) d_St_deep_17 rfl ?_
      refine sx_iload_n (pc2 := 21) hX 2 d_St_deep_20 rfl rfl rfl ?_
      refine cl_St_262 (pc2 := 24) hX hK h (by decide) ⟨Nat.le_of_ble_eq_true rfl, Nat.le_of_ble_eq_true rfl⟩ (Nat.le_of_ble_eq_true rfl) d_St_deep_21 rfl (fun r2 σ2 τ2 h => ?_)
      refine sx_mmax (pc2 := 27) hX lk_18 kx_mmax.1 kx_mmax.2.1 kx_mmax.2.2 ⟨Nat.le_of_ble_eq_true rfl, Nat.le_of_ble_eq_true rfl⟩ d_St_deep_24 rfl ?_
      refine sx_istore_n (pc2 := 28) hX _ [(0, .ref (K.2.2.1 0 0 0)), (1, .int (if v1 < r2 then r2 else v1)), (2, .int v2)] [1, 0, 2] d_St_deep_27 rfl (by decide) rfl rfl rfl ?_
      refine sx_iinc (pc2 := 31) hX 2 _ [(0, .ref (K.2.2.1 0 0 0)), (1, .int (if v1 < r2 then r2 else v1)), (2, .int (v2 + 1))] [1, 2, 0] d_St_deep_28 rfl (v2 + 1) rfl (by decide) rfl rfl rfl ?_
      refine sx_goto (tgt := 4) hX d_St_deep_31 (by decide) ?_
      exact ih (if v1 < r2 then r2 else v1) (v2 + 1) _ _ h
set_option maxRecDepth 100000 in
set_option maxHeartbeats 4000000 in
theorem c_St_deep {l : Launch} {K : sx_K} (hK : kx_C K)  (σ : sx_M) (τ : sx_L) (Q : Int32 → sx_M → Prop)  (h : wp_St_deep σ Q) : Met l y_St_deep (sx_wd y_St_deep prog_1_method_30_code 3 (some .int)) rm_St_deep (sx_Pc K [.ref (K.2.2.1 0 0 0)] σ τ) (sx_Qi K (fun r σ _ => Q r σ)) 0 0 (sx_A K) := by
  refine sx_met (by decide) (Nat.le_of_ble_eq_true rfl) (fun X hX hE => ?_)
  replace hX : sx_C X K prog_1_method_30_code 3 "SensorTree" (some .int) rm_St_deep l := hX
  show sx_G X K 3 0 [(0, .ref (K.2.2.1 0 0 0))] [] (sx_H K σ τ)
  unfold wp_St_deep at h
  refine sx_iconst (v := 0) (pc2 := 1) hX d_St_deep_0 (by decide) rfl ?_
  refine sx_istore_n (pc2 := 2) hX _ [(0, .ref (K.2.2.1 0 0 0)), (1, .int 0)] [1, 0] d_St_deep_1 rfl (by decide) rfl rfl rfl ?_
  refine sx_iconst (v := 0) (pc2 := 3) hX d_St_deep_2 (by decide) rfl ?_
  refine sx_istore_n (pc2 := 4) hX _ [(0, .ref (K.2.2.1 0 0 0)), (1, .int 0), (2, .int 0)] [1, 2, 0] d_St_deep_3 rfl (by decide) rfl rfl rfl ?_
  obtain ⟨f4, h⟩ := h
  exact g_St_deep_b4 hX hK hE   f4 0 0 _ _ h
def y_St_reached : MethodName := ⟨"SensorTree", "reached", "()I"⟩
theorem hy_St_reached : y_St_reached.cls ≠ "java/lang/invoke/MethodHandle" ∧ y_St_reached.cls ≠ "java/lang/invoke/VarHandle" ∧ (parseMethodDescriptor y_St_reached.desc).map (fun d => d.parameters.length) = some 0 := by decide +kernel
theorem d_St_reached_0 : decode prog_1_method_31_code 0 = .ok (.iconst 0, 1) := by decide +kernel
theorem d_St_reached_1 : decode prog_1_method_31_code 1 = .ok (.istore_n 1, 1) := by decide +kernel
theorem d_St_reached_2 : decode prog_1_method_31_code 2 = .ok (.iconst 0, 1) := by decide +kernel
theorem d_St_reached_3 : decode prog_1_method_31_code 3 = .ok (.istore_n 2, 1) := by decide +kernel
theorem d_St_reached_4 : decode prog_1_method_31_code 4 = .ok (.iload_n 2, 1) := by decide +kernel
theorem d_St_reached_5 : decode prog_1_method_31_code 5 = .ok (.aload_n 0, 1) := by decide +kernel
theorem d_St_reached_6 : decode prog_1_method_31_code 6 = .ok (.getfield 26, 3) := by decide +kernel
theorem d_St_reached_9 : decode prog_1_method_31_code 9 = .ok (.getfield 160, 3) := by decide +kernel
theorem d_St_reached_12 : decode prog_1_method_31_code 12 = .ok (.if_icmp .ge 64, 3) := by decide +kernel
theorem d_St_reached_15 : decode prog_1_method_31_code 15 = .ok (.iconst 0, 1) := by decide +kernel
theorem d_St_reached_16 : decode prog_1_method_31_code 16 = .ok (.istore_n 3, 1) := by decide +kernel
theorem d_St_reached_17 : decode prog_1_method_31_code 17 = .ok (.iload_n 3, 1) := by decide +kernel
theorem d_St_reached_18 : decode prog_1_method_31_code 18 = .ok (.aload_n 0, 1) := by decide +kernel
theorem d_St_reached_19 : decode prog_1_method_31_code 19 = .ok (.getfield 26, 3) := by decide +kernel
theorem d_St_reached_22 : decode prog_1_method_31_code 22 = .ok (.getfield 160, 3) := by decide +kernel
theorem d_St_reached_25 : decode prog_1_method_31_code 25 = .ok (.if_icmp .ge 45, 3) := by decide +kernel
theorem d_St_reached_28 : decode prog_1_method_31_code 28 = .ok (.aload_n 0, 1) := by decide +kernel
theorem d_St_reached_29 : decode prog_1_method_31_code 29 = .ok (.iload_n 2, 1) := by decide +kernel
theorem d_St_reached_30 : decode prog_1_method_31_code 30 = .ok (.iload_n 3, 1) := by decide +kernel
theorem d_St_reached_31 : decode prog_1_method_31_code 31 = .ok (.invokevirtual 168, 3) := by decide +kernel
theorem d_St_reached_34 : decode prog_1_method_31_code 34 = .ok (.ifCond .eq 30, 3) := by decide +kernel
theorem d_St_reached_37 : decode prog_1_method_31_code 37 = .ok (.aload_n 0, 1) := by decide +kernel
theorem d_St_reached_38 : decode prog_1_method_31_code 38 = .ok (.getfield 64, 3) := by decide +kernel
theorem d_St_reached_41 : decode prog_1_method_31_code 41 = .ok (.iload_n 2, 1) := by decide +kernel
theorem d_St_reached_42 : decode prog_1_method_31_code 42 = .ok (.iload_n 3, 1) := by decide +kernel
theorem d_St_reached_43 : decode prog_1_method_31_code 43 = .ok (.invokevirtual 172, 3) := by decide +kernel
theorem d_St_reached_46 : decode prog_1_method_31_code 46 = .ok (.iload_n 1, 1) := by decide +kernel
theorem d_St_reached_47 : decode prog_1_method_31_code 47 = .ok (.aload_n 0, 1) := by decide +kernel
theorem d_St_reached_48 : decode prog_1_method_31_code 48 = .ok (.getfield 64, 3) := by decide +kernel
theorem d_St_reached_51 : decode prog_1_method_31_code 51 = .ok (.getfield 182, 3) := by decide +kernel
theorem d_St_reached_54 : decode prog_1_method_31_code 54 = .ok (.ifCond .ne 7, 3) := by decide +kernel
theorem d_St_reached_57 : decode prog_1_method_31_code 57 = .ok (.iconst 1, 1) := by decide +kernel
theorem d_St_reached_58 : decode prog_1_method_31_code 58 = .ok (.goto 4, 3) := by decide +kernel
theorem d_St_reached_61 : decode prog_1_method_31_code 61 = .ok (.iconst 0, 1) := by decide +kernel
theorem d_St_reached_62 : decode prog_1_method_31_code 62 = .ok (.iadd, 1) := by decide +kernel
theorem d_St_reached_63 : decode prog_1_method_31_code 63 = .ok (.istore_n 1, 1) := by decide +kernel
theorem d_St_reached_64 : decode prog_1_method_31_code 64 = .ok (.iinc 3 1, 3) := by decide +kernel
theorem d_St_reached_67 : decode prog_1_method_31_code 67 = .ok (.goto (-50), 3) := by decide +kernel
theorem d_St_reached_70 : decode prog_1_method_31_code 70 = .ok (.iinc 2 1, 3) := by decide +kernel
theorem d_St_reached_73 : decode prog_1_method_31_code 73 = .ok (.goto (-69), 3) := by decide +kernel
theorem d_St_reached_76 : decode prog_1_method_31_code 76 = .ok (.iload_n 1, 1) := by decide +kernel
theorem d_St_reached_77 : decode prog_1_method_31_code 77 = .ok (.ireturn, 1) := by decide +kernel
def wp_St_reached_b64  (k4 : Int32 → Int32 → sx_M → Prop) (k17 : Int32 → Int32 → Int32 → sx_M → Prop) (Q : Int32 → sx_M → Prop) (v1 : Int32) (v2 : Int32) (v3 : Int32) (σ : sx_M) : Prop := k17 v1 v2 (v3 + 1) σ
def wp_St_reached_b62  (k4 : Int32 → Int32 → sx_M → Prop) (k17 : Int32 → Int32 → Int32 → sx_M → Prop) (Q : Int32 → sx_M → Prop) (v2 : Int32) (v3 : Int32) (w0 : Int32) (w1 : Int32) (σ : sx_M) : Prop := wp_St_reached_b64 k4 k17 Q (w0 + w1) v2 v3 σ
def wp_St_reached_b17  (k4 : Int32 → Int32 → sx_M → Prop) (Q : Int32 → sx_M → Prop) : Nat → Int32 → Int32 → Int32 → sx_M → Prop
  | 0, _, _, _, _ => False
  | f + 1, v1, v2, v3, σ => if σ 8 0 0 0 ≤ v3 then (k4 v1 (v2 + 1) σ) else (wp_St_canSend v2 v3 σ (fun r2 σ2 => if r2 = 0 then (wp_St_reached_b64 k4 (wp_St_reached_b17 k4 Q f) Q v1 v2 v3 σ2) else (wp_Jo_go v2 v3 σ2 (fun σ4 => if σ4 34 0 0 5 = 0 then (wp_St_reached_b62 k4 (wp_St_reached_b17 k4 Q f) Q v2 v3 v1 1 σ4) else (wp_St_reached_b62 k4 (wp_St_reached_b17 k4 Q f) Q v2 v3 v1 0 σ4)))))
def wp_St_reached_b4   (Q : Int32 → sx_M → Prop) : Nat → Int32 → Int32 → sx_M → Prop
  | 0, _, _, _ => False
  | f + 1, v1, v2, σ => if σ 8 0 0 0 ≤ v2 then (Q v1 σ) else (∃ f17, wp_St_reached_b17 (wp_St_reached_b4 Q f) Q f17 v1 v2 0 σ)
def wp_St_reached  (σ : sx_M) (Q : Int32 → sx_M → Prop) : Prop := ∃ f4, wp_St_reached_b4 Q f4 0 0 σ
abbrev rm_St_reached : Room := { frames := 3, cells := 0, slots := 0, locals := 75 }
set_option maxRecDepth 100000 in
set_option maxHeartbeats 4000000 in
theorem g_St_reached_b64 {l : Launch} {K : sx_K} {X : sx_T}  {k4 : Int32 → Int32 → sx_M → Prop} {k17 : Int32 → Int32 → Int32 → sx_M → Prop} {Q : Int32 → sx_M → Prop} (hX : sx_C X K prog_1_method_31_code 4 "SensorTree" (some .int) rm_St_reached l) (hK : kx_C K) (hE : sx_E X K (sx_Qi K (fun r σ _ => Q r σ)))  (hk4 : ∀ (v1 : Int32) (v2 : Int32) (σ : sx_M) (τ : sx_L) , k4 v1 v2 σ → sx_G X K 4 4 [(0, .ref (K.2.2.1 0 0 0)), (1, .int v1), (2, .int v2)] [] (sx_H K σ τ)) (hk17 : ∀ (v1 : Int32) (v2 : Int32) (v3 : Int32) (σ : sx_M) (τ : sx_L) , k17 v1 v2 v3 σ → sx_G X K 4 17 [(0, .ref (K.2.2.1 0 0 0)), (1, .int v1), (2, .int v2), (3, .int v3)] [] (sx_H K σ τ)) (v1 : Int32) (v2 : Int32) (v3 : Int32) (σ : sx_M) (τ : sx_L)  (h : wp_St_reached_b64 k4 k17 Q  v1 v2 v3 σ) : sx_G X K 4 64 [(0, .ref (K.2.2.1 0 0 0)), (1, .int v1), (2, .int v2), (3, .int v3)] [] (sx_H K σ τ) := by
  unfold wp_St_reached_b64 at h
  refine sx_iinc (pc2 := 67) hX 3 _ [(0, .ref (K.2.2.1 0 0 0)), (1, .int v1), (2, .int v2), (3, .int (v3 + 1))] [1, 2, 3, 0] d_St_reached_64 rfl (v3 + 1) rfl (by decide) rfl rfl rfl ?_
  refine sx_goto (tgt := 17) hX d_St_reached_67 (by decide) ?_
  exact hk17 v1 v2 (v3 + 1) _ _ h
set_option maxRecDepth 100000 in
set_option maxHeartbeats 4000000 in
theorem g_St_reached_b62 {l : Launch} {K : sx_K} {X : sx_T}  {k4 : Int32 → Int32 → sx_M → Prop} {k17 : Int32 → Int32 → Int32 → sx_M → Prop} {Q : Int32 → sx_M → Prop} (hX : sx_C X K prog_1_method_31_code 4 "SensorTree" (some .int) rm_St_reached l) (hK : kx_C K) (hE : sx_E X K (sx_Qi K (fun r σ _ => Q r σ)))  (hk4 : ∀ (v1 : Int32) (v2 : Int32) (σ : sx_M) (τ : sx_L) , k4 v1 v2 σ → sx_G X K 4 4 [(0, .ref (K.2.2.1 0 0 0)), (1, .int v1), (2, .int v2)] [] (sx_H K σ τ)) (hk17 : ∀ (v1 : Int32) (v2 : Int32) (v3 : Int32) (σ : sx_M) (τ : sx_L) , k17 v1 v2 v3 σ → sx_G X K 4 17 [(0, .ref (K.2.2.1 0 0 0)), (1, .int v1), (2, .int v2), (3, .int v3)] [] (sx_H K σ τ)) (v2 : Int32) (v3 : Int32) (w0 : Int32) (w1 : Int32) (σ : sx_M) (τ : sx_L)  (h : wp_St_reached_b62 k4 k17 Q  v2 v3 w0 w1 σ) : sx_G X K 4 62 [(0, .ref (K.2.2.1 0 0 0)), (2, .int v2), (3, .int v3)] [.int w1, .int w0] (sx_H K σ τ) := by
  unfold wp_St_reached_b62 at h
  refine sx_iadd (pc2 := 63) hX d_St_reached_62 rfl ?_
  refine sx_istore_n (pc2 := 64) hX _ [(0, .ref (K.2.2.1 0 0 0)), (1, .int (w0 + w1)), (2, .int v2), (3, .int v3)] [1, 0, 2, 3] d_St_reached_63 rfl (by decide) rfl rfl rfl ?_
  exact g_St_reached_b64 hX hK hE  hk4 hk17 (w0 + w1) v2 v3 _ _ h
set_option maxRecDepth 100000 in
set_option maxHeartbeats 4000000 in
theorem g_St_reached_b17 {l : Launch} {K : sx_K} {X : sx_T}  {k4 : Int32 → Int32 → sx_M → Prop} {Q : Int32 → sx_M → Prop} (hX : sx_C X K prog_1_method_31_code 4 "SensorTree" (some .int) rm_St_reached l) (hK : kx_C K) (hE : sx_E X K (sx_Qi K (fun r σ _ => Q r σ)))  (hk4 : ∀ (v1 : Int32) (v2 : Int32) (σ : sx_M) (τ : sx_L) , k4 v1 v2 σ → sx_G X K 4 4 [(0, .ref (K.2.2.1 0 0 0)), (1, .int v1), (2, .int v2)] [] (sx_H K σ τ)) : ∀ (f : Nat) (v1 : Int32) (v2 : Int32) (v3 : Int32) (σ : sx_M) (τ : sx_L) , wp_St_reached_b17 k4 Q f v1 v2 v3 σ → sx_G X K 4 17 [(0, .ref (K.2.2.1 0 0 0)), (1, .int v1), (2, .int v2), (3, .int v3)] [] (sx_H K σ τ) := by
  intro f
  induction f with
  | zero => intro v1 v2 v3 σ τ h; exact (show False from h).elim
  | succ f ih =>
    intro v1 v2 v3 σ τ h
    rw [wp_St_reached_b17] at h
    refine sx_iload_n (pc2 := 18) hX 3 d_St_reached_17 rfl rfl rfl ?_
    refine sx_aload_n (pc2 := 19) hX 0 d_St_reached_18 rfl rfl rfl ?_
    refine fg_St_26 (pc2 := 22) hX (hK 0 0 0 (by decide) (by decide)) d_St_reached_19 rfl ?_
    refine fg_St_160 (pc2 := 25) hX (hK 8 0 0 (by decide) (by decide)) d_St_reached_22 rfl ?_
    refine sx_icmp_ge (tgt := 70) (pc2 := 28) hX d_St_reached_25 (by decide) rfl (fun hc1 => ?_) (fun hc1 => ?_)
    · replace h := sx_t h hc1
      refine sx_iinc (pc2 := 73) hX 2 _ [(0, .ref (K.2.2.1 0 0 0)), (1, .int v1), (2, .int (v2 + 1)), (3, .int v3)] [1, 2, 0, 3] d_St_reached_70 rfl (v2 + 1) rfl (by decide) rfl rfl rfl ?_
      refine sx_goto (tgt := 4) hX d_St_reached_73 (by decide) ?_
      refine sx_sub [(0, .ref (K.2.2.1 0 0 0)), (1, .int v1), (2, .int (v2 + 1))] [0, 1, 2] rfl ?_
      exact hk4 v1 (v2 + 1) _ _ h
    · replace h := sx_f h hc1
      refine sx_aload_n (pc2 := 29) hX 0 d_St_reached_28 rfl rfl rfl ?_
      refine sx_iload_n (pc2 := 30) hX 2 d_St_reached_29 rfl rfl rfl ?_
      refine sx_iload_n (pc2 := 31) hX 3 d_St_reached_30 rfl rfl rfl ?_
      refine cl_St_168 (pc2 := 34) hX hK h  ⟨Nat.le_of_ble_eq_true rfl, Nat.le_of_ble_eq_true rfl⟩ (Nat.le_of_ble_eq_true rfl) d_St_reached_31 rfl (fun r2 σ2 τ2 h => ?_)
      refine sx_if_eq (tgt := 64) (pc2 := 37) hX d_St_reached_34 (by decide) rfl (fun hc3 => ?_) (fun hc3 => ?_)
      · replace h := sx_t h hc3
        exact g_St_reached_b64 hX hK hE  hk4 ih v1 v2 v3 _ _ h
      · replace h := sx_f h hc3
        refine sx_aload_n (pc2 := 38) hX 0 d_St_reached_37 rfl rfl rfl ?_
        refine fg_St_64 (pc2 := 41) hX (hK 0 0 0 (by decide) (by decide)) d_St_reached_38 rfl ?_
        refine sx_iload_n (pc2 := 42) hX 2 d_St_reached_41 rfl rfl rfl ?_
        refine sx_iload_n (pc2 := 43) hX 3 d_St_reached_42 rfl rfl rfl ?_
        refine cl_St_172 (pc2 := 46) hX hK h  ⟨Nat.le_of_ble_eq_true rfl, Nat.le_of_ble_eq_true rfl⟩ (Nat.le_of_ble_eq_true rfl) d_St_reached_43 rfl (fun σ4 τ4 h => ?_)
        refine sx_iload_n (pc2 := 47) hX 1 d_St_reached_46 rfl rfl rfl ?_
        refine sx_aload_n (pc2 := 48) hX 0 d_St_reached_47 rfl rfl rfl ?_
        refine fg_St_64 (pc2 := 51) hX (hK 0 0 0 (by decide) (by decide)) d_St_reached_48 rfl ?_
        refine fg_St_182 (pc2 := 54) hX (hK 34 0 0 (by decide) (by decide)) d_St_reached_51 rfl ?_
        refine sx_if_ne (tgt := 61) (pc2 := 57) hX d_St_reached_54 (by decide) rfl (fun hc5 => ?_) (fun hc5 => ?_)
        · replace h := sx_f h hc5
          refine sx_iconst (v := 0) (pc2 := 62) hX d_St_reached_61 (by decide) rfl ?_
          refine sx_sub [(0, .ref (K.2.2.1 0 0 0)), (2, .int v2), (3, .int v3)] [0, 2, 3] rfl ?_
          exact g_St_reached_b62 hX hK hE  hk4 ih v2 v3 v1 0 _ _ h
        · replace h := sx_t h hc5
          refine sx_iconst (v := 1) (pc2 := 58) hX d_St_reached_57 (by decide) rfl ?_
          refine sx_goto (tgt := 62) hX d_St_reached_58 (by decide) ?_
          refine sx_sub [(0, .ref (K.2.2.1 0 0 0)), (2, .int v2), (3, .int v3)] [0, 2, 3] rfl ?_
          exact g_St_reached_b62 hX hK hE  hk4 ih v2 v3 v1 1 _ _ h
set_option maxRecDepth 100000 in
set_option maxHeartbeats 4000000 in
theorem g_St_reached_b4 {l : Launch} {K : sx_K} {X : sx_T}   {Q : Int32 → sx_M → Prop} (hX : sx_C X K prog_1_method_31_code 4 "SensorTree" (some .int) rm_St_reached l) (hK : kx_C K) (hE : sx_E X K (sx_Qi K (fun r σ _ => Q r σ)))  : ∀ (f : Nat) (v1 : Int32) (v2 : Int32) (σ : sx_M) (τ : sx_L) , wp_St_reached_b4 Q f v1 v2 σ → sx_G X K 4 4 [(0, .ref (K.2.2.1 0 0 0)), (1, .int v1), (2, .int v2)] [] (sx_H K σ τ) := by
  intro f
  induction f with
  | zero => intro v1 v2 σ τ h; exact (show False from h).elim
  | succ f ih =>
    intro v1 v2 σ τ h
    rw [wp_St_reached_b4] at h
    refine sx_iload_n (pc2 := 5) hX 2 d_St_reached_4 rfl rfl rfl ?_
    refine sx_aload_n (pc2 := 6) hX 0 d_St_reached_5 rfl rfl rfl ?_
    refine fg_St_26 (pc2 := 9) hX (hK 0 0 0 (by decide) (by decide)) d_St_reached_6 rfl ?_
    refine fg_St_160 (pc2 := 12) hX (hK 8 0 0 (by decide) (by decide)) d_St_reached_9 rfl ?_
    refine sx_icmp_ge (tgt := 76) (pc2 := 15) hX d_St_reached_12 (by decide) rfl (fun hc6 => ?_) (fun hc6 => ?_)
    · replace h := sx_t h hc6
      refine sx_iload_n (pc2 := 77) hX 1 d_St_reached_76 rfl rfl rfl ?_
      exact sx_iret hX hE h d_St_reached_77
    · replace h := sx_f h hc6
      refine sx_iconst (v := 0) (pc2 := 16) hX d_St_reached_15 (by decide) rfl ?_
      refine sx_istore_n (pc2 := 17) hX _ [(0, .ref (K.2.2.1 0 0 0)), (1, .int v1), (2, .int v2), (3, .int 0)] [1, 2, 3, 0] d_St_reached_16 rfl (by decide) rfl rfl rfl ?_
      obtain ⟨f17, h⟩ := h
      exact g_St_reached_b17 hX hK hE  ih f17 v1 v2 0 _ _ h
set_option maxRecDepth 100000 in
set_option maxHeartbeats 4000000 in
theorem c_St_reached {l : Launch} {K : sx_K} (hK : kx_C K)  (σ : sx_M) (τ : sx_L) (Q : Int32 → sx_M → Prop)  (h : wp_St_reached σ Q) : Met l y_St_reached (sx_wd y_St_reached prog_1_method_31_code 4 (some .int)) rm_St_reached (sx_Pc K [.ref (K.2.2.1 0 0 0)] σ τ) (sx_Qi K (fun r σ _ => Q r σ)) 0 0 (sx_A K) := by
  refine sx_met (by decide) (Nat.le_of_ble_eq_true rfl) (fun X hX hE => ?_)
  replace hX : sx_C X K prog_1_method_31_code 4 "SensorTree" (some .int) rm_St_reached l := hX
  show sx_G X K 4 0 [(0, .ref (K.2.2.1 0 0 0))] [] (sx_H K σ τ)
  unfold wp_St_reached at h
  refine sx_iconst (v := 0) (pc2 := 1) hX d_St_reached_0 (by decide) rfl ?_
  refine sx_istore_n (pc2 := 2) hX _ [(0, .ref (K.2.2.1 0 0 0)), (1, .int 0)] [1, 0] d_St_reached_1 rfl (by decide) rfl rfl rfl ?_
  refine sx_iconst (v := 0) (pc2 := 3) hX d_St_reached_2 (by decide) rfl ?_
  refine sx_istore_n (pc2 := 4) hX _ [(0, .ref (K.2.2.1 0 0 0)), (1, .int 0), (2, .int 0)] [1, 2, 0] d_St_reached_3 rfl (by decide) rfl rfl rfl ?_
  obtain ⟨f4, h⟩ := h
  exact g_St_reached_b4 hX hK hE   f4 0 0 _ _ h
def y_St_lull : MethodName := ⟨"SensorTree", "lull", "(I)I"⟩
theorem hy_St_lull : y_St_lull.cls ≠ "java/lang/invoke/MethodHandle" ∧ y_St_lull.cls ≠ "java/lang/invoke/VarHandle" ∧ (parseMethodDescriptor y_St_lull.desc).map (fun d => d.parameters.length) = some 1 := by decide +kernel
theorem d_St_lull_0 : decode prog_1_method_32_code 0 = .ok (.iload_n 1, 1) := by decide +kernel
theorem d_St_lull_1 : decode prog_1_method_32_code 1 = .ok (.invokestatic 115, 3) := by decide +kernel
theorem d_St_lull_4 : decode prog_1_method_32_code 4 = .ok (.ifCond .eq 7, 3) := by decide +kernel
theorem d_St_lull_7 : decode prog_1_method_32_code 7 = .ok (.iload_n 1, 1) := by decide +kernel
theorem d_St_lull_8 : decode prog_1_method_32_code 8 = .ok (.ifCond .ne 5, 3) := by decide +kernel
theorem d_St_lull_11 : decode prog_1_method_32_code 11 = .ok (.iconst (-1), 1) := by decide +kernel
theorem d_St_lull_12 : decode prog_1_method_32_code 12 = .ok (.ireturn, 1) := by decide +kernel
theorem d_St_lull_13 : decode prog_1_method_32_code 13 = .ok (.aload_n 0, 1) := by decide +kernel
theorem d_St_lull_14 : decode prog_1_method_32_code 14 = .ok (.getfield 39, 3) := by decide +kernel
theorem d_St_lull_17 : decode prog_1_method_32_code 17 = .ok (.aload_n 0, 1) := by decide +kernel
theorem d_St_lull_18 : decode prog_1_method_32_code 18 = .ok (.getfield 35, 3) := by decide +kernel
theorem d_St_lull_21 : decode prog_1_method_32_code 21 = .ok (.invokevirtual 191, 3) := by decide +kernel
theorem d_St_lull_24 : decode prog_1_method_32_code 24 = .ok (.iconst 0, 1) := by decide +kernel
theorem d_St_lull_25 : decode prog_1_method_32_code 25 = .ok (.istore_n 2, 1) := by decide +kernel
theorem d_St_lull_26 : decode prog_1_method_32_code 26 = .ok (.iconst 0, 1) := by decide +kernel
theorem d_St_lull_27 : decode prog_1_method_32_code 27 = .ok (.istore_n 3, 1) := by decide +kernel
theorem d_St_lull_28 : decode prog_1_method_32_code 28 = .ok (.iconst 0, 1) := by decide +kernel
theorem d_St_lull_29 : decode prog_1_method_32_code 29 = .ok (.istore 4, 2) := by decide +kernel
theorem d_St_lull_31 : decode prog_1_method_32_code 31 = .ok (.iload 4, 2) := by decide +kernel
theorem d_St_lull_33 : decode prog_1_method_32_code 33 = .ok (.iload_n 1, 1) := by decide +kernel
theorem d_St_lull_34 : decode prog_1_method_32_code 34 = .ok (.if_icmp .ge 51, 3) := by decide +kernel
theorem d_St_lull_37 : decode prog_1_method_32_code 37 = .ok (.aload_n 0, 1) := by decide +kernel
theorem d_St_lull_38 : decode prog_1_method_32_code 38 = .ok (.getfield 39, 3) := by decide +kernel
theorem d_St_lull_41 : decode prog_1_method_32_code 41 = .ok (.invokevirtual 247, 3) := by decide +kernel
theorem d_St_lull_44 : decode prog_1_method_32_code 44 = .ok (.istore 5, 2) := by decide +kernel
theorem d_St_lull_46 : decode prog_1_method_32_code 46 = .ok (.aload_n 0, 1) := by decide +kernel
theorem d_St_lull_47 : decode prog_1_method_32_code 47 = .ok (.getfield 51, 3) := by decide +kernel
theorem d_St_lull_50 : decode prog_1_method_32_code 50 = .ok (.invokevirtual 122, 3) := by decide +kernel
theorem d_St_lull_53 : decode prog_1_method_32_code 53 = .ok (.aload_n 0, 1) := by decide +kernel
theorem d_St_lull_54 : decode prog_1_method_32_code 54 = .ok (.getfield 39, 3) := by decide +kernel
theorem d_St_lull_57 : decode prog_1_method_32_code 57 = .ok (.invokevirtual 247, 3) := by decide +kernel
theorem d_St_lull_60 : decode prog_1_method_32_code 60 = .ok (.iload 5, 2) := by decide +kernel
theorem d_St_lull_62 : decode prog_1_method_32_code 62 = .ok (.if_icmp .ne 9, 3) := by decide +kernel
theorem d_St_lull_65 : decode prog_1_method_32_code 65 = .ok (.iload_n 3, 1) := by decide +kernel
theorem d_St_lull_66 : decode prog_1_method_32_code 66 = .ok (.iconst 1, 1) := by decide +kernel
theorem d_St_lull_67 : decode prog_1_method_32_code 67 = .ok (.iadd, 1) := by decide +kernel
theorem d_St_lull_68 : decode prog_1_method_32_code 68 = .ok (.goto 4, 3) := by decide +kernel
theorem d_St_lull_71 : decode prog_1_method_32_code 71 = .ok (.iconst 0, 1) := by decide +kernel
theorem d_St_lull_72 : decode prog_1_method_32_code 72 = .ok (.istore_n 3, 1) := by decide +kernel
theorem d_St_lull_73 : decode prog_1_method_32_code 73 = .ok (.iload_n 2, 1) := by decide +kernel
theorem d_St_lull_74 : decode prog_1_method_32_code 74 = .ok (.iload_n 3, 1) := by decide +kernel
theorem d_St_lull_75 : decode prog_1_method_32_code 75 = .ok (.invokestatic 265, 3) := by decide +kernel
theorem d_St_lull_78 : decode prog_1_method_32_code 78 = .ok (.istore_n 2, 1) := by decide +kernel
theorem d_St_lull_79 : decode prog_1_method_32_code 79 = .ok (.iinc 4 1, 3) := by decide +kernel
theorem d_St_lull_82 : decode prog_1_method_32_code 82 = .ok (.goto (-51), 3) := by decide +kernel
theorem d_St_lull_85 : decode prog_1_method_32_code 85 = .ok (.iload_n 2, 1) := by decide +kernel
theorem d_St_lull_86 : decode prog_1_method_32_code 86 = .ok (.ireturn, 1) := by decide +kernel
def wp_St_lull_b72  (k31 : Int32 → Int32 → Int32 → Int32 → sx_M → Prop) (Q : Int32 → sx_M → Prop) (v1 : Int32) (v2 : Int32) (v4 : Int32) (w0 : Int32) (σ : sx_M) : Prop := k31 v1 (if v2 < w0 then w0 else v2) w0 (v4 + 1) σ
def wp_St_lull_b31   (Q : Int32 → sx_M → Prop) : Nat → Int32 → Int32 → Int32 → Int32 → sx_M → Prop
  | 0, _, _, _, _, _ => False
  | f + 1, v1, v2, v3, v4, σ => if v1 ≤ v4 then (Q v2 σ) else (wp_Ne_messagesPut 1 σ (fun r2 σ2 => wp_En_passTick 1 σ2 (fun σ3 => wp_Ne_messagesPut 1 σ3 (fun r4 σ4 => if r4 = r2 then (wp_St_lull_b72 (wp_St_lull_b31 Q f) Q v1 v2 v4 (v3 + 1) σ4) else (wp_St_lull_b72 (wp_St_lull_b31 Q f) Q v1 v2 v4 0 σ4)))))
def wp_St_lull_b11   (Q : Int32 → sx_M → Prop)  (σ : sx_M) : Prop := Q (-1) σ
def wp_St_lull (x1 : Int32) (σ : sx_M) (Q : Int32 → sx_M → Prop) : Prop := wp_St_isTicks x1 σ (fun r6 σ6 => if r6 = 0 then (wp_St_lull_b11 Q σ6) else (if x1 = 0 then (wp_St_lull_b11 Q σ6) else (wp_Ne_copyFrom 1 0 σ6 (fun σ9 => ∃ f31, wp_St_lull_b31 Q f31 x1 0 0 0 σ9))))
abbrev rm_St_lull : Room := { frames := 6, cells := 0, slots := 0, locals := 141 }
set_option maxRecDepth 100000 in
set_option maxHeartbeats 4000000 in
theorem g_St_lull_b72 {l : Launch} {K : sx_K} {X : sx_T}  {k31 : Int32 → Int32 → Int32 → Int32 → sx_M → Prop} {Q : Int32 → sx_M → Prop} (hX : sx_C X K prog_1_method_32_code 6 "SensorTree" (some .int) rm_St_lull l) (hK : kx_C K) (hE : sx_E X K (sx_Qi K (fun r σ _ => Q r σ)))  (hk31 : ∀ (v1 : Int32) (v2 : Int32) (v3 : Int32) (v4 : Int32) (σ : sx_M) (τ : sx_L) , k31 v1 v2 v3 v4 σ → sx_G X K 6 31 [(0, .ref (K.2.2.1 0 0 0)), (1, .int v1), (2, .int v2), (3, .int v3), (4, .int v4)] [] (sx_H K σ τ)) (v1 : Int32) (v2 : Int32) (v4 : Int32) (w0 : Int32) (σ : sx_M) (τ : sx_L)  (h : wp_St_lull_b72 k31 Q  v1 v2 v4 w0 σ) : sx_G X K 6 72 [(0, .ref (K.2.2.1 0 0 0)), (1, .int v1), (2, .int v2), (4, .int v4)] [.int w0] (sx_H K σ τ) := by
  unfold wp_St_lull_b72 at h
  refine sx_istore_n (pc2 := 73) hX _ [(0, .ref (K.2.2.1 0 0 0)), (1, .int v1), (2, .int v2), (3, .int w0), (4, .int v4)] [1, 2, 3, 0, 4] d_St_lull_72 rfl (by decide) rfl rfl rfl ?_
  refine sx_iload_n (pc2 := 74) hX 2 d_St_lull_73 rfl rfl rfl ?_
  refine sx_iload_n (pc2 := 75) hX 3 d_St_lull_74 rfl rfl rfl ?_
  refine sx_mmax (pc2 := 78) hX lk_18 kx_mmax.1 kx_mmax.2.1 kx_mmax.2.2 ⟨Nat.le_of_ble_eq_true rfl, Nat.le_of_ble_eq_true rfl⟩ d_St_lull_75 rfl ?_
  refine sx_istore_n (pc2 := 79) hX _ [(0, .ref (K.2.2.1 0 0 0)), (1, .int v1), (2, .int (if v2 < w0 then w0 else v2)), (3, .int w0), (4, .int v4)] [1, 2, 0, 3, 4] d_St_lull_78 rfl (by decide) rfl rfl rfl ?_
  refine sx_iinc (pc2 := 82) hX 4 _ [(0, .ref (K.2.2.1 0 0 0)), (1, .int v1), (2, .int (if v2 < w0 then w0 else v2)), (3, .int w0), (4, .int (v4 + 1))] [1, 2, 3, 4, 0] d_St_lull_79 rfl (v4 + 1) rfl (by decide) rfl rfl rfl ?_
  refine sx_goto (tgt := 31) hX d_St_lull_82 (by decide) ?_
  exact hk31 v1 (if v2 < w0 then w0 else v2) w0 (v4 + 1) _ _ h
set_option maxRecDepth 100000 in
set_option maxHeartbeats 4000000 in
theorem g_St_lull_b31 {l : Launch} {K : sx_K} {X : sx_T}   {Q : Int32 → sx_M → Prop} (hX : sx_C X K prog_1_method_32_code 6 "SensorTree" (some .int) rm_St_lull l) (hK : kx_C K) (hE : sx_E X K (sx_Qi K (fun r σ _ => Q r σ)))  : ∀ (f : Nat) (v1 : Int32) (v2 : Int32) (v3 : Int32) (v4 : Int32) (σ : sx_M) (τ : sx_L) , wp_St_lull_b31 Q f v1 v2 v3 v4 σ → sx_G X K 6 31 [(0, .ref (K.2.2.1 0 0 0)), (1, .int v1), (2, .int v2), (3, .int v3), (4, .int v4)] [] (sx_H K σ τ) := by
  intro f
  induction f with
  | zero => intro v1 v2 v3 v4 σ τ h; exact (show False from h).elim
  | succ f ih =>
    intro v1 v2 v3 v4 σ τ h
    rw [wp_St_lull_b31] at h
    refine sx_iload (pc2 := 33) hX 4 d_St_lull_31 rfl rfl ?_
    refine sx_iload_n (pc2 := 34) hX 1 d_St_lull_33 rfl rfl rfl ?_
    refine sx_icmp_ge (tgt := 85) (pc2 := 37) hX d_St_lull_34 (by decide) rfl (fun hc1 => ?_) (fun hc1 => ?_)
    · replace h := sx_t h hc1
      refine sx_iload_n (pc2 := 86) hX 2 d_St_lull_85 rfl rfl rfl ?_
      exact sx_iret hX hE h d_St_lull_86
    · replace h := sx_f h hc1
      refine sx_aload_n (pc2 := 38) hX 0 d_St_lull_37 rfl rfl rfl ?_
      refine fg_St_39 (pc2 := 41) hX (hK 0 0 0 (by decide) (by decide)) d_St_lull_38 rfl ?_
      refine cl_St_247 (pc2 := 44) hX hK h (by decide) ⟨Nat.le_of_ble_eq_true rfl, Nat.le_of_ble_eq_true rfl⟩ (Nat.le_of_ble_eq_true rfl) d_St_lull_41 rfl (fun r2 σ2 τ2 h => ?_)
      refine sx_istore (pc2 := 46) hX _ [(0, .ref (K.2.2.1 0 0 0)), (1, .int v1), (2, .int v2), (3, .int v3), (4, .int v4), (5, .int r2)] [1, 2, 3, 4, 5, 0] d_St_lull_44 (by decide) rfl rfl rfl ?_
      refine sx_aload_n (pc2 := 47) hX 0 d_St_lull_46 rfl rfl rfl ?_
      refine fg_St_51 (pc2 := 50) hX (hK 0 0 0 (by decide) (by decide)) d_St_lull_47 rfl ?_
      refine cl_St_122 (pc2 := 53) hX hK h (by decide) ⟨Nat.le_of_ble_eq_true rfl, Nat.le_of_ble_eq_true rfl⟩ (Nat.le_of_ble_eq_true rfl) d_St_lull_50 rfl (fun σ3 τ3 h => ?_)
      refine sx_aload_n (pc2 := 54) hX 0 d_St_lull_53 rfl rfl rfl ?_
      refine fg_St_39 (pc2 := 57) hX (hK 0 0 0 (by decide) (by decide)) d_St_lull_54 rfl ?_
      refine cl_St_247 (pc2 := 60) hX hK h (by decide) ⟨Nat.le_of_ble_eq_true rfl, Nat.le_of_ble_eq_true rfl⟩ (Nat.le_of_ble_eq_true rfl) d_St_lull_57 rfl (fun r4 σ4 τ4 h => ?_)
      refine sx_iload (pc2 := 62) hX 5 d_St_lull_60 rfl rfl ?_
      refine sx_icmp_ne (tgt := 71) (pc2 := 65) hX d_St_lull_62 (by decide) rfl (fun hc5 => ?_) (fun hc5 => ?_)
      · replace h := sx_f h hc5
        refine sx_iconst (v := 0) (pc2 := 72) hX d_St_lull_71 (by decide) rfl ?_
        refine sx_sub [(0, .ref (K.2.2.1 0 0 0)), (1, .int v1), (2, .int v2), (4, .int v4)] [0, 1, 2, 4] rfl ?_
        exact g_St_lull_b72 hX hK hE  ih v1 v2 v4 0 _ _ h
      · replace h := sx_t h hc5
        refine sx_iload_n (pc2 := 66) hX 3 d_St_lull_65 rfl rfl rfl ?_
        refine sx_iconst (v := 1) (pc2 := 67) hX d_St_lull_66 (by decide) rfl ?_
        refine sx_iadd (pc2 := 68) hX d_St_lull_67 rfl ?_
        refine sx_goto (tgt := 72) hX d_St_lull_68 (by decide) ?_
        refine sx_sub [(0, .ref (K.2.2.1 0 0 0)), (1, .int v1), (2, .int v2), (4, .int v4)] [0, 1, 2, 4] rfl ?_
        exact g_St_lull_b72 hX hK hE  ih v1 v2 v4 (v3 + 1) _ _ h
set_option maxRecDepth 100000 in
set_option maxHeartbeats 4000000 in
theorem g_St_lull_b11 {l : Launch} {K : sx_K} {X : sx_T}   {Q : Int32 → sx_M → Prop} (hX : sx_C X K prog_1_method_32_code 6 "SensorTree" (some .int) rm_St_lull l) (hK : kx_C K) (hE : sx_E X K (sx_Qi K (fun r σ _ => Q r σ)))   (σ : sx_M) (τ : sx_L)  (h : wp_St_lull_b11 Q  σ) : sx_G X K 6 11 [] [] (sx_H K σ τ) := by
  unfold wp_St_lull_b11 at h
  refine sx_iconst (v := (-1)) (pc2 := 12) hX d_St_lull_11 (by decide) rfl ?_
  exact sx_iret hX hE h d_St_lull_12
set_option maxRecDepth 100000 in
set_option maxHeartbeats 4000000 in
theorem c_St_lull {l : Launch} {K : sx_K} (hK : kx_C K) (x1 : Int32) (σ : sx_M) (τ : sx_L) (Q : Int32 → sx_M → Prop)  (h : wp_St_lull x1 σ Q) : Met l y_St_lull (sx_wd y_St_lull prog_1_method_32_code 6 (some .int)) rm_St_lull (sx_Pc K [.ref (K.2.2.1 0 0 0), .int x1] σ τ) (sx_Qi K (fun r σ _ => Q r σ)) 0 0 (sx_A K) := by
  refine sx_met (by decide) (Nat.le_of_ble_eq_true rfl) (fun X hX hE => ?_)
  replace hX : sx_C X K prog_1_method_32_code 6 "SensorTree" (some .int) rm_St_lull l := hX
  show sx_G X K 6 0 [(0, .ref (K.2.2.1 0 0 0)), (1, .int x1)] [] (sx_H K σ τ)
  unfold wp_St_lull at h
  refine sx_iload_n (pc2 := 1) hX 1 d_St_lull_0 rfl rfl rfl ?_
  refine cl_St_115 (pc2 := 4) hX hK h  ⟨Nat.le_of_ble_eq_true rfl, Nat.le_of_ble_eq_true rfl⟩ (Nat.le_of_ble_eq_true rfl) d_St_lull_1 rfl (fun r6 σ6 τ6 h => ?_)
  refine sx_if_eq (tgt := 11) (pc2 := 7) hX d_St_lull_4 (by decide) rfl (fun hc7 => ?_) (fun hc7 => ?_)
  · replace h := sx_t h hc7
    refine sx_sub [] [] rfl ?_
    exact g_St_lull_b11 hX hK hE   _ _ h
  · replace h := sx_f h hc7
    refine sx_iload_n (pc2 := 8) hX 1 d_St_lull_7 rfl rfl rfl ?_
    refine sx_if_ne (tgt := 13) (pc2 := 11) hX d_St_lull_8 (by decide) rfl (fun hc8 => ?_) (fun hc8 => ?_)
    · replace h := sx_f h hc8
      refine sx_aload_n (pc2 := 14) hX 0 d_St_lull_13 rfl rfl rfl ?_
      refine fg_St_39 (pc2 := 17) hX (hK 0 0 0 (by decide) (by decide)) d_St_lull_14 rfl ?_
      refine sx_aload_n (pc2 := 18) hX 0 d_St_lull_17 rfl rfl rfl ?_
      refine fg_St_35 (pc2 := 21) hX (hK 0 0 0 (by decide) (by decide)) d_St_lull_18 rfl ?_
      refine cl_St_191 (pc2 := 24) hX hK h (by decide) (by decide) ⟨Nat.le_of_ble_eq_true rfl, Nat.le_of_ble_eq_true rfl⟩ (Nat.le_of_ble_eq_true rfl) d_St_lull_21 rfl (fun σ9 τ9 h => ?_)
      refine sx_iconst (v := 0) (pc2 := 25) hX d_St_lull_24 (by decide) rfl ?_
      refine sx_istore_n (pc2 := 26) hX _ [(0, .ref (K.2.2.1 0 0 0)), (1, .int x1), (2, .int 0)] [1, 2, 0] d_St_lull_25 rfl (by decide) rfl rfl rfl ?_
      refine sx_iconst (v := 0) (pc2 := 27) hX d_St_lull_26 (by decide) rfl ?_
      refine sx_istore_n (pc2 := 28) hX _ [(0, .ref (K.2.2.1 0 0 0)), (1, .int x1), (2, .int 0), (3, .int 0)] [1, 2, 3, 0] d_St_lull_27 rfl (by decide) rfl rfl rfl ?_
      refine sx_iconst (v := 0) (pc2 := 29) hX d_St_lull_28 (by decide) rfl ?_
      refine sx_istore (pc2 := 31) hX _ [(0, .ref (K.2.2.1 0 0 0)), (1, .int x1), (2, .int 0), (3, .int 0), (4, .int 0)] [1, 2, 3, 4, 0] d_St_lull_29 (by decide) rfl rfl rfl ?_
      obtain ⟨f31, h⟩ := h
      exact g_St_lull_b31 hX hK hE   f31 x1 0 0 0 _ _ h
    · replace h := sx_t h hc8
      refine sx_sub [] [] rfl ?_
      exact g_St_lull_b11 hX hK hE   _ _ h
def y_St_stretch : MethodName := ⟨"SensorTree", "stretch", "()I"⟩
theorem hy_St_stretch : y_St_stretch.cls ≠ "java/lang/invoke/MethodHandle" ∧ y_St_stretch.cls ≠ "java/lang/invoke/VarHandle" ∧ (parseMethodDescriptor y_St_stretch.desc).map (fun d => d.parameters.length) = some 0 := by decide +kernel
theorem d_St_stretch_0 : decode prog_1_method_33_code 0 = .ok (.aload_n 0, 1) := by decide +kernel
theorem d_St_stretch_1 : decode prog_1_method_33_code 1 = .ok (.getfield 57, 3) := by decide +kernel
theorem d_St_stretch_4 : decode prog_1_method_33_code 4 = .ok (.aload_n 0, 1) := by decide +kernel
theorem d_St_stretch_5 : decode prog_1_method_33_code 5 = .ok (.getfield 35, 3) := by decide +kernel
theorem d_St_stretch_8 : decode prog_1_method_33_code 8 = .ok (.iconst (-1), 1) := by decide +kernel
theorem d_St_stretch_9 : decode prog_1_method_33_code 9 = .ok (.invokevirtual 221, 3) := by decide +kernel
theorem d_St_stretch_12 : decode prog_1_method_33_code 12 = .ok (.aload_n 0, 1) := by decide +kernel
theorem d_St_stretch_13 : decode prog_1_method_33_code 13 = .ok (.getfield 57, 3) := by decide +kernel
theorem d_St_stretch_16 : decode prog_1_method_33_code 16 = .ok (.aload_n 0, 1) := by decide +kernel
theorem d_St_stretch_17 : decode prog_1_method_33_code 17 = .ok (.getfield 35, 3) := by decide +kernel
theorem d_St_stretch_20 : decode prog_1_method_33_code 20 = .ok (.invokevirtual 270, 3) := by decide +kernel
theorem d_St_stretch_23 : decode prog_1_method_33_code 23 = .ok (.ireturn, 1) := by decide +kernel
def wp_St_stretch  (σ : sx_M) (Q : Int32 → sx_M → Prop) : Prop := wp_Tr_reckon 0 (-1 : Int32) σ (fun σ1 => wp_Tr_sumBeyond 0 σ1 (fun r2 σ2 => Q r2 σ2))
abbrev rm_St_stretch : Room := { frames := 2, cells := 0, slots := 0, locals := 51 }
set_option maxRecDepth 100000 in
set_option maxHeartbeats 4000000 in
theorem c_St_stretch {l : Launch} {K : sx_K} (hK : kx_C K)  (σ : sx_M) (τ : sx_L) (Q : Int32 → sx_M → Prop)  (h : wp_St_stretch σ Q) : Met l y_St_stretch (sx_wd y_St_stretch prog_1_method_33_code 1 (some .int)) rm_St_stretch (sx_Pc K [.ref (K.2.2.1 0 0 0)] σ τ) (sx_Qi K (fun r σ _ => Q r σ)) 0 0 (sx_A K) := by
  refine sx_met (by decide) (Nat.le_of_ble_eq_true rfl) (fun X hX hE => ?_)
  replace hX : sx_C X K prog_1_method_33_code 1 "SensorTree" (some .int) rm_St_stretch l := hX
  show sx_G X K 1 0 [(0, .ref (K.2.2.1 0 0 0))] [] (sx_H K σ τ)
  unfold wp_St_stretch at h
  refine sx_aload_n (pc2 := 1) hX 0 d_St_stretch_0 rfl rfl rfl ?_
  refine fg_St_57 (pc2 := 4) hX (hK 0 0 0 (by decide) (by decide)) d_St_stretch_1 rfl ?_
  refine sx_aload_n (pc2 := 5) hX 0 d_St_stretch_4 rfl rfl rfl ?_
  refine fg_St_35 (pc2 := 8) hX (hK 0 0 0 (by decide) (by decide)) d_St_stretch_5 rfl ?_
  refine sx_iconst (v := (-1)) (pc2 := 9) hX d_St_stretch_8 (by decide) rfl ?_
  refine cl_St_221 (pc2 := 12) hX hK h (by decide) ⟨Nat.le_of_ble_eq_true rfl, Nat.le_of_ble_eq_true rfl⟩ (Nat.le_of_ble_eq_true rfl) d_St_stretch_9 rfl (fun σ1 τ1 h => ?_)
  refine sx_aload_n (pc2 := 13) hX 0 d_St_stretch_12 rfl rfl rfl ?_
  refine fg_St_57 (pc2 := 16) hX (hK 0 0 0 (by decide) (by decide)) d_St_stretch_13 rfl ?_
  refine sx_aload_n (pc2 := 17) hX 0 d_St_stretch_16 rfl rfl rfl ?_
  refine fg_St_35 (pc2 := 20) hX (hK 0 0 0 (by decide) (by decide)) d_St_stretch_17 rfl ?_
  refine cl_St_270 (pc2 := 23) hX hK h (by decide) ⟨Nat.le_of_ble_eq_true rfl, Nat.le_of_ble_eq_true rfl⟩ (Nat.le_of_ble_eq_true rfl) d_St_stretch_20 rfl (fun r2 σ2 τ2 h => ?_)
  exact sx_iret hX hE h d_St_stretch_23
def y_St_then : MethodName := ⟨"SensorTree", "then", "(III)I"⟩
theorem hy_St_then : y_St_then.cls ≠ "java/lang/invoke/MethodHandle" ∧ y_St_then.cls ≠ "java/lang/invoke/VarHandle" ∧ (parseMethodDescriptor y_St_then.desc).map (fun d => d.parameters.length) = some 3 := by decide +kernel
theorem d_St_then_0 : decode prog_1_method_34_code 0 = .ok (.aload_n 0, 1) := by decide +kernel
theorem d_St_then_1 : decode prog_1_method_34_code 1 = .ok (.getfield 26, 3) := by decide +kernel
theorem d_St_then_4 : decode prog_1_method_34_code 4 = .ok (.iload_n 1, 1) := by decide +kernel
theorem d_St_then_5 : decode prog_1_method_34_code 5 = .ok (.invokevirtual 144, 3) := by decide +kernel
theorem d_St_then_8 : decode prog_1_method_34_code 8 = .ok (.ifCond .eq 19, 3) := by decide +kernel
theorem d_St_then_11 : decode prog_1_method_34_code 11 = .ok (.iload_n 2, 1) := by decide +kernel
theorem d_St_then_12 : decode prog_1_method_34_code 12 = .ok (.invokestatic 115, 3) := by decide +kernel
theorem d_St_then_15 : decode prog_1_method_34_code 15 = .ok (.ifCond .eq 12, 3) := by decide +kernel
theorem d_St_then_18 : decode prog_1_method_34_code 18 = .ok (.iload_n 3, 1) := by decide +kernel
theorem d_St_then_19 : decode prog_1_method_34_code 19 = .ok (.ifCond .lt 8, 3) := by decide +kernel
theorem d_St_then_22 : decode prog_1_method_34_code 22 = .ok (.iload_n 3, 1) := by decide +kernel
theorem d_St_then_23 : decode prog_1_method_34_code 23 = .ok (.iconst 1, 1) := by decide +kernel
theorem d_St_then_24 : decode prog_1_method_34_code 24 = .ok (.if_icmp .le 5, 3) := by decide +kernel
theorem d_St_then_27 : decode prog_1_method_34_code 27 = .ok (.iconst (-1), 1) := by decide +kernel
theorem d_St_then_28 : decode prog_1_method_34_code 28 = .ok (.ireturn, 1) := by decide +kernel
theorem d_St_then_29 : decode prog_1_method_34_code 29 = .ok (.aload_n 0, 1) := by decide +kernel
theorem d_St_then_30 : decode prog_1_method_34_code 30 = .ok (.iload_n 2, 1) := by decide +kernel
theorem d_St_then_31 : decode prog_1_method_34_code 31 = .ok (.iconst 0, 1) := by decide +kernel
theorem d_St_then_32 : decode prog_1_method_34_code 32 = .ok (.invokevirtual 244, 3) := by decide +kernel
theorem d_St_then_35 : decode prog_1_method_34_code 35 = .ok (.iload_n 3, 1) := by decide +kernel
theorem d_St_then_36 : decode prog_1_method_34_code 36 = .ok (.ifCond .ne 18, 3) := by decide +kernel
theorem d_St_then_39 : decode prog_1_method_34_code 39 = .ok (.aload_n 0, 1) := by decide +kernel
theorem d_St_then_40 : decode prog_1_method_34_code 40 = .ok (.getfield 39, 3) := by decide +kernel
theorem d_St_then_43 : decode prog_1_method_34_code 43 = .ok (.getfield 147, 3) := by decide +kernel
theorem d_St_then_46 : decode prog_1_method_34_code 46 = .ok (.iload_n 1, 1) := by decide +kernel
theorem d_St_then_47 : decode prog_1_method_34_code 47 = .ok (.aaload, 1) := by decide +kernel
theorem d_St_then_48 : decode prog_1_method_34_code 48 = .ok (.getfield 273, 3) := by decide +kernel
theorem d_St_then_51 : decode prog_1_method_34_code 51 = .ok (.goto 15, 3) := by decide +kernel
theorem d_St_then_54 : decode prog_1_method_34_code 54 = .ok (.aload_n 0, 1) := by decide +kernel
theorem d_St_then_55 : decode prog_1_method_34_code 55 = .ok (.getfield 39, 3) := by decide +kernel
theorem d_St_then_58 : decode prog_1_method_34_code 58 = .ok (.getfield 147, 3) := by decide +kernel
theorem d_St_then_61 : decode prog_1_method_34_code 61 = .ok (.iload_n 1, 1) := by decide +kernel
theorem d_St_then_62 : decode prog_1_method_34_code 62 = .ok (.aaload, 1) := by decide +kernel
theorem d_St_then_63 : decode prog_1_method_34_code 63 = .ok (.getfield 235, 3) := by decide +kernel
theorem d_St_then_66 : decode prog_1_method_34_code 66 = .ok (.ireturn, 1) := by decide +kernel
def wp_St_then_b66   (Q : Int32 → sx_M → Prop) (w0 : Int32) (σ : sx_M) : Prop := Q w0 σ
def wp_St_then_b27   (Q : Int32 → sx_M → Prop)  (σ : sx_M) : Prop := Q (-1) σ
def wp_St_then (x1 : Int32) (x2 : Int32) (x3 : Int32) (σ : sx_M) (Q : Int32 → sx_M → Prop) : Prop := wp_Pl_isPost 0 x1 σ (fun r1 σ1 => if r1 = 0 then (wp_St_then_b27 Q σ1) else (wp_St_isTicks x2 σ1 (fun r3 σ3 => if r3 = 0 then (wp_St_then_b27 Q σ3) else (if x3 < 0 then (wp_St_then_b27 Q σ3) else (if x3 ≤ 1 then (wp_St_dreamOn x2 (0 : Int32) σ3 (fun σ7 => if x3 = 0 then (vp_in x1 7 ∧ (wp_St_then_b66 Q (σ7 27 1 x1.toNatClampNeg 2) σ7)) else (vp_in x1 7 ∧ (wp_St_then_b66 Q (σ7 27 1 x1.toNatClampNeg 3) σ7)))) else (wp_St_then_b27 Q σ3))))))
abbrev rm_St_then : Room := { frames := 7, cells := 0, slots := 0, locals := 164 }
set_option maxRecDepth 100000 in
set_option maxHeartbeats 4000000 in
theorem g_St_then_b66 {l : Launch} {K : sx_K} {X : sx_T}   {Q : Int32 → sx_M → Prop} (hX : sx_C X K prog_1_method_34_code 4 "SensorTree" (some .int) rm_St_then l) (hK : kx_C K) (hE : sx_E X K (sx_Qi K (fun r σ _ => Q r σ)))  (w0 : Int32) (σ : sx_M) (τ : sx_L)  (h : wp_St_then_b66 Q  w0 σ) : sx_G X K 4 66 [] [.int w0] (sx_H K σ τ) := by
  unfold wp_St_then_b66 at h
  exact sx_iret hX hE h d_St_then_66
set_option maxRecDepth 100000 in
set_option maxHeartbeats 4000000 in
theorem g_St_then_b27 {l : Launch} {K : sx_K} {X : sx_T}   {Q : Int32 → sx_M → Prop} (hX : sx_C X K prog_1_method_34_code 4 "SensorTree" (some .int) rm_St_then l) (hK : kx_C K) (hE : sx_E X K (sx_Qi K (fun r σ _ => Q r σ)))   (σ : sx_M) (τ : sx_L)  (h : wp_St_then_b27 Q  σ) : sx_G X K 4 27 [] [] (sx_H K σ τ) := by
  unfold wp_St_then_b27 at h
  refine sx_iconst (v := (-1)) (pc2 := 28) hX d_St_then_27 (by decide) rfl ?_
  exact sx_iret hX hE h d_St_then_28
set_option maxRecDepth 100000 in
set_option maxHeartbeats 4000000 in
theorem c_St_then {l : Launch} {K : sx_K} (hK : kx_C K) (x1 : Int32) (x2 : Int32) (x3 : Int32) (σ : sx_M) (τ : sx_L) (Q : Int32 → sx_M → Prop)  (h : wp_St_then x1 x2 x3 σ Q) : Met l y_St_then (sx_wd y_St_then prog_1_method_34_code 4 (some .int)) rm_St_then (sx_Pc K [.ref (K.2.2.1 0 0 0), .int x1, .int x2, .int x3] σ τ) (sx_Qi K (fun r σ _ => Q r σ)) 0 0 (sx_A K) := by
  refine sx_met (by decide) (Nat.le_of_ble_eq_true rfl) (fun X hX hE => ?_)
  replace hX : sx_C X K prog_1_method_34_code 4 "SensorTree" (some .int) rm_St_then l := hX
  show sx_G X K 4 0 [(0, .ref (K.2.2.1 0 0 0)), (1, .int x1), (2, .int x2), (3, .int x3)] [] (sx_H K σ τ)
  unfold wp_St_then at h
  refine sx_aload_n (pc2 := 1) hX 0 d_St_then_0 rfl rfl rfl ?_
  refine fg_St_26 (pc2 := 4) hX (hK 0 0 0 (by decide) (by decide)) d_St_then_1 rfl ?_
  refine sx_iload_n (pc2 := 5) hX 1 d_St_then_4 rfl rfl rfl ?_
  refine cl_St_144 (pc2 := 8) hX hK h (by decide) ⟨Nat.le_of_ble_eq_true rfl, Nat.le_of_ble_eq_true rfl⟩ (Nat.le_of_ble_eq_true rfl) d_St_then_5 rfl (fun r1 σ1 τ1 h => ?_)
  refine sx_if_eq (tgt := 27) (pc2 := 11) hX d_St_then_8 (by decide) rfl (fun hc2 => ?_) (fun hc2 => ?_)
  · replace h := sx_t h hc2
    refine sx_sub [] [] rfl ?_
    exact g_St_then_b27 hX hK hE   _ _ h
  · replace h := sx_f h hc2
    refine sx_iload_n (pc2 := 12) hX 2 d_St_then_11 rfl rfl rfl ?_
    refine cl_St_115 (pc2 := 15) hX hK h  ⟨Nat.le_of_ble_eq_true rfl, Nat.le_of_ble_eq_true rfl⟩ (Nat.le_of_ble_eq_true rfl) d_St_then_12 rfl (fun r3 σ3 τ3 h => ?_)
    refine sx_if_eq (tgt := 27) (pc2 := 18) hX d_St_then_15 (by decide) rfl (fun hc4 => ?_) (fun hc4 => ?_)
    · replace h := sx_t h hc4
      refine sx_sub [] [] rfl ?_
      exact g_St_then_b27 hX hK hE   _ _ h
    · replace h := sx_f h hc4
      refine sx_iload_n (pc2 := 19) hX 3 d_St_then_18 rfl rfl rfl ?_
      refine sx_if_lt (tgt := 27) (pc2 := 22) hX d_St_then_19 (by decide) rfl (fun hc5 => ?_) (fun hc5 => ?_)
      · replace h := sx_t h hc5
        refine sx_sub [] [] rfl ?_
        exact g_St_then_b27 hX hK hE   _ _ h
      · replace h := sx_f h hc5
        refine sx_iload_n (pc2 := 23) hX 3 d_St_then_22 rfl rfl rfl ?_
        refine sx_iconst (v := 1) (pc2 := 24) hX d_St_then_23 (by decide) rfl ?_
        refine sx_icmp_le (tgt := 29) (pc2 := 27) hX d_St_then_24 (by decide) rfl (fun hc6 => ?_) (fun hc6 => ?_)
        · replace h := sx_t h hc6
          refine sx_aload_n (pc2 := 30) hX 0 d_St_then_29 rfl rfl rfl ?_
          refine sx_iload_n (pc2 := 31) hX 2 d_St_then_30 rfl rfl rfl ?_
          refine sx_iconst (v := 0) (pc2 := 32) hX d_St_then_31 (by decide) rfl ?_
          refine cl_St_244 (pc2 := 35) hX hK h  ⟨Nat.le_of_ble_eq_true rfl, Nat.le_of_ble_eq_true rfl⟩ (Nat.le_of_ble_eq_true rfl) d_St_then_32 rfl (fun σ7 τ7 h => ?_)
          refine sx_iload_n (pc2 := 36) hX 3 d_St_then_35 rfl rfl rfl ?_
          refine sx_if_ne (tgt := 54) (pc2 := 39) hX d_St_then_36 (by decide) rfl (fun hc8 => ?_) (fun hc8 => ?_)
          · replace h := sx_f h hc8
            refine sx_aload_n (pc2 := 55) hX 0 d_St_then_54 rfl rfl rfl ?_
            refine fg_St_39 (pc2 := 58) hX (hK 0 0 0 (by decide) (by decide)) d_St_then_55 rfl ?_
            refine fg_St_147 (pc2 := 61) hX (hK 16 1 0 (by decide) (by decide)) d_St_then_58 rfl ?_
            refine sx_iload_n (pc2 := 62) hX 1 d_St_then_61 rfl rfl rfl ?_
            obtain ⟨hc9, h⟩ := h
            refine sx_aald (a := K.2.2.1 27 1 x1.toNatClampNeg) (pc2 := 63) hX (hK 17 1 0 (by decide) (by decide)) 4 rfl rfl rfl hc9 d_St_then_62 rfl ?_
            refine fg_St_235 (pc2 := 66) hX (hK 27 1 x1.toNatClampNeg (by decide) (sx_lt hc9)) d_St_then_63 rfl ?_
            refine sx_sub [] [] rfl ?_
            exact g_St_then_b66 hX hK hE   (σ7 27 1 x1.toNatClampNeg 3) _ _ h
          · replace h := sx_t h hc8
            refine sx_aload_n (pc2 := 40) hX 0 d_St_then_39 rfl rfl rfl ?_
            refine fg_St_39 (pc2 := 43) hX (hK 0 0 0 (by decide) (by decide)) d_St_then_40 rfl ?_
            refine fg_St_147 (pc2 := 46) hX (hK 16 1 0 (by decide) (by decide)) d_St_then_43 rfl ?_
            refine sx_iload_n (pc2 := 47) hX 1 d_St_then_46 rfl rfl rfl ?_
            obtain ⟨hc10, h⟩ := h
            refine sx_aald (a := K.2.2.1 27 1 x1.toNatClampNeg) (pc2 := 48) hX (hK 17 1 0 (by decide) (by decide)) 4 rfl rfl rfl hc10 d_St_then_47 rfl ?_
            refine fg_St_273 (pc2 := 51) hX (hK 27 1 x1.toNatClampNeg (by decide) (sx_lt hc10)) d_St_then_48 rfl ?_
            refine sx_goto (tgt := 66) hX d_St_then_51 (by decide) ?_
            refine sx_sub [] [] rfl ?_
            exact g_St_then_b66 hX hK hE   (σ7 27 1 x1.toNatClampNeg 2) _ _ h
        · replace h := sx_f h hc6
          refine sx_sub [] [] rfl ?_
          exact g_St_then_b27 hX hK hE   _ _ h
def y_St_year : MethodName := ⟨"SensorTree", "year", "(II)I"⟩
theorem hy_St_year : y_St_year.cls ≠ "java/lang/invoke/MethodHandle" ∧ y_St_year.cls ≠ "java/lang/invoke/VarHandle" ∧ (parseMethodDescriptor y_St_year.desc).map (fun d => d.parameters.length) = some 2 := by decide +kernel
theorem d_St_year_0 : decode prog_1_method_35_code 0 = .ok (.iload_n 1, 1) := by decide +kernel
theorem d_St_year_1 : decode prog_1_method_35_code 1 = .ok (.invokestatic 115, 3) := by decide +kernel
theorem d_St_year_4 : decode prog_1_method_35_code 4 = .ok (.ifCond .eq 14, 3) := by decide +kernel
theorem d_St_year_7 : decode prog_1_method_35_code 7 = .ok (.iload_n 2, 1) := by decide +kernel
theorem d_St_year_8 : decode prog_1_method_35_code 8 = .ok (.iconst 1, 1) := by decide +kernel
theorem d_St_year_9 : decode prog_1_method_35_code 9 = .ok (.if_icmp .lt 9, 3) := by decide +kernel
theorem d_St_year_12 : decode prog_1_method_35_code 12 = .ok (.iload_n 2, 1) := by decide +kernel
theorem d_St_year_13 : decode prog_1_method_35_code 13 = .ok (.bipush 10, 2) := by decide +kernel
theorem d_St_year_15 : decode prog_1_method_35_code 15 = .ok (.if_icmp .le 5, 3) := by decide +kernel
theorem d_St_year_18 : decode prog_1_method_35_code 18 = .ok (.iconst (-1), 1) := by decide +kernel
theorem d_St_year_19 : decode prog_1_method_35_code 19 = .ok (.ireturn, 1) := by decide +kernel
theorem d_St_year_20 : decode prog_1_method_35_code 20 = .ok (.aload_n 0, 1) := by decide +kernel
theorem d_St_year_21 : decode prog_1_method_35_code 21 = .ok (.getfield 57, 3) := by decide +kernel
theorem d_St_year_24 : decode prog_1_method_35_code 24 = .ok (.aload_n 0, 1) := by decide +kernel
theorem d_St_year_25 : decode prog_1_method_35_code 25 = .ok (.getfield 35, 3) := by decide +kernel
theorem d_St_year_28 : decode prog_1_method_35_code 28 = .ok (.iconst (-1), 1) := by decide +kernel
theorem d_St_year_29 : decode prog_1_method_35_code 29 = .ok (.invokevirtual 221, 3) := by decide +kernel
theorem d_St_year_32 : decode prog_1_method_35_code 32 = .ok (.iconst 0, 1) := by decide +kernel
theorem d_St_year_33 : decode prog_1_method_35_code 33 = .ok (.istore_n 3, 1) := by decide +kernel
theorem d_St_year_34 : decode prog_1_method_35_code 34 = .ok (.iconst 0, 1) := by decide +kernel
theorem d_St_year_35 : decode prog_1_method_35_code 35 = .ok (.istore 4, 2) := by decide +kernel
theorem d_St_year_37 : decode prog_1_method_35_code 37 = .ok (.iload 4, 2) := by decide +kernel
theorem d_St_year_39 : decode prog_1_method_35_code 39 = .ok (.iload_n 2, 1) := by decide +kernel
theorem d_St_year_40 : decode prog_1_method_35_code 40 = .ok (.if_icmp .ge 38, 3) := by decide +kernel
theorem d_St_year_43 : decode prog_1_method_35_code 43 = .ok (.aload_n 0, 1) := by decide +kernel
theorem d_St_year_44 : decode prog_1_method_35_code 44 = .ok (.iload_n 1, 1) := by decide +kernel
theorem d_St_year_45 : decode prog_1_method_35_code 45 = .ok (.iload 4, 2) := by decide +kernel
theorem d_St_year_47 : decode prog_1_method_35_code 47 = .ok (.invokevirtual 244, 3) := by decide +kernel
theorem d_St_year_50 : decode prog_1_method_35_code 50 = .ok (.iload_n 3, 1) := by decide +kernel
theorem d_St_year_51 : decode prog_1_method_35_code 51 = .ok (.aload_n 0, 1) := by decide +kernel
theorem d_St_year_52 : decode prog_1_method_35_code 52 = .ok (.getfield 57, 3) := by decide +kernel
theorem d_St_year_55 : decode prog_1_method_35_code 55 = .ok (.aload_n 0, 1) := by decide +kernel
theorem d_St_year_56 : decode prog_1_method_35_code 56 = .ok (.getfield 39, 3) := by decide +kernel
theorem d_St_year_59 : decode prog_1_method_35_code 59 = .ok (.invokevirtual 228, 3) := by decide +kernel
theorem d_St_year_62 : decode prog_1_method_35_code 62 = .ok (.ifCond .eq 7, 3) := by decide +kernel
theorem d_St_year_65 : decode prog_1_method_35_code 65 = .ok (.iconst 1, 1) := by decide +kernel
theorem d_St_year_66 : decode prog_1_method_35_code 66 = .ok (.goto 4, 3) := by decide +kernel
theorem d_St_year_69 : decode prog_1_method_35_code 69 = .ok (.iconst 0, 1) := by decide +kernel
theorem d_St_year_70 : decode prog_1_method_35_code 70 = .ok (.iadd, 1) := by decide +kernel
theorem d_St_year_71 : decode prog_1_method_35_code 71 = .ok (.istore_n 3, 1) := by decide +kernel
theorem d_St_year_72 : decode prog_1_method_35_code 72 = .ok (.iinc 4 1, 3) := by decide +kernel
theorem d_St_year_75 : decode prog_1_method_35_code 75 = .ok (.goto (-38), 3) := by decide +kernel
theorem d_St_year_78 : decode prog_1_method_35_code 78 = .ok (.iload_n 3, 1) := by decide +kernel
theorem d_St_year_79 : decode prog_1_method_35_code 79 = .ok (.ireturn, 1) := by decide +kernel
def wp_St_year_b70  (k37 : Int32 → Int32 → Int32 → Int32 → sx_M → Prop) (Q : Int32 → sx_M → Prop) (v1 : Int32) (v2 : Int32) (v4 : Int32) (w0 : Int32) (w1 : Int32) (σ : sx_M) : Prop := k37 v1 v2 (w0 + w1) (v4 + 1) σ
def wp_St_year_b37   (Q : Int32 → sx_M → Prop) : Nat → Int32 → Int32 → Int32 → Int32 → sx_M → Prop
  | 0, _, _, _, _, _ => False
  | f + 1, v1, v2, v3, v4, σ => if v2 ≤ v4 then (Q v3 σ) else (wp_St_dreamOn v1 v4 σ (fun σ2 => wp_Tr_isRight 1 σ2 (fun r3 σ3 => if r3 = 0 then (wp_St_year_b70 (wp_St_year_b37 Q f) Q v1 v2 v4 v3 0 σ3) else (wp_St_year_b70 (wp_St_year_b37 Q f) Q v1 v2 v4 v3 1 σ3))))
def wp_St_year_b18   (Q : Int32 → sx_M → Prop)  (σ : sx_M) : Prop := Q (-1) σ
def wp_St_year (x1 : Int32) (x2 : Int32) (σ : sx_M) (Q : Int32 → sx_M → Prop) : Prop := wp_St_isTicks x1 σ (fun r5 σ5 => if r5 = 0 then (wp_St_year_b18 Q σ5) else (if x2 < 1 then (wp_St_year_b18 Q σ5) else (if x2 ≤ 10 then (wp_Tr_reckon 0 (-1 : Int32) σ5 (fun σ9 => ∃ f37, wp_St_year_b37 Q f37 x1 x2 0 0 σ9)) else (wp_St_year_b18 Q σ5))))
abbrev rm_St_year : Room := { frames := 7, cells := 0, slots := 0, locals := 164 }
set_option maxRecDepth 100000 in
set_option maxHeartbeats 4000000 in
theorem g_St_year_b70 {l : Launch} {K : sx_K} {X : sx_T}  {k37 : Int32 → Int32 → Int32 → Int32 → sx_M → Prop} {Q : Int32 → sx_M → Prop} (hX : sx_C X K prog_1_method_35_code 5 "SensorTree" (some .int) rm_St_year l) (hK : kx_C K) (hE : sx_E X K (sx_Qi K (fun r σ _ => Q r σ)))  (hk37 : ∀ (v1 : Int32) (v2 : Int32) (v3 : Int32) (v4 : Int32) (σ : sx_M) (τ : sx_L) , k37 v1 v2 v3 v4 σ → sx_G X K 5 37 [(0, .ref (K.2.2.1 0 0 0)), (1, .int v1), (2, .int v2), (3, .int v3), (4, .int v4)] [] (sx_H K σ τ)) (v1 : Int32) (v2 : Int32) (v4 : Int32) (w0 : Int32) (w1 : Int32) (σ : sx_M) (τ : sx_L)  (h : wp_St_year_b70 k37 Q  v1 v2 v4 w0 w1 σ) : sx_G X K 5 70 [(0, .ref (K.2.2.1 0 0 0)), (1, .int v1), (2, .int v2), (4, .int v4)] [.int w1, .int w0] (sx_H K σ τ) := by
  unfold wp_St_year_b70 at h
  refine sx_iadd (pc2 := 71) hX d_St_year_70 rfl ?_
  refine sx_istore_n (pc2 := 72) hX _ [(0, .ref (K.2.2.1 0 0 0)), (1, .int v1), (2, .int v2), (3, .int (w0 + w1)), (4, .int v4)] [1, 2, 3, 0, 4] d_St_year_71 rfl (by decide) rfl rfl rfl ?_
  refine sx_iinc (pc2 := 75) hX 4 _ [(0, .ref (K.2.2.1 0 0 0)), (1, .int v1), (2, .int v2), (3, .int (w0 + w1)), (4, .int (v4 + 1))] [1, 2, 3, 4, 0] d_St_year_72 rfl (v4 + 1) rfl (by decide) rfl rfl rfl ?_
  refine sx_goto (tgt := 37) hX d_St_year_75 (by decide) ?_
  exact hk37 v1 v2 (w0 + w1) (v4 + 1) _ _ h
set_option maxRecDepth 100000 in
set_option maxHeartbeats 4000000 in
theorem g_St_year_b37 {l : Launch} {K : sx_K} {X : sx_T}   {Q : Int32 → sx_M → Prop} (hX : sx_C X K prog_1_method_35_code 5 "SensorTree" (some .int) rm_St_year l) (hK : kx_C K) (hE : sx_E X K (sx_Qi K (fun r σ _ => Q r σ)))  : ∀ (f : Nat) (v1 : Int32) (v2 : Int32) (v3 : Int32) (v4 : Int32) (σ : sx_M) (τ : sx_L) , wp_St_year_b37 Q f v1 v2 v3 v4 σ → sx_G X K 5 37 [(0, .ref (K.2.2.1 0 0 0)), (1, .int v1), (2, .int v2), (3, .int v3), (4, .int v4)] [] (sx_H K σ τ) := by
  intro f
  induction f with
  | zero => intro v1 v2 v3 v4 σ τ h; exact (show False from h).elim
  | succ f ih =>
    intro v1 v2 v3 v4 σ τ h
    rw [wp_St_year_b37] at h
    refine sx_iload (pc2 := 39) hX 4 d_St_year_37 rfl rfl ?_
    refine sx_iload_n (pc2 := 40) hX 2 d_St_year_39 rfl rfl rfl ?_
    refine sx_icmp_ge (tgt := 78) (pc2 := 43) hX d_St_year_40 (by decide) rfl (fun hc1 => ?_) (fun hc1 => ?_)
    · replace h := sx_t h hc1
      refine sx_iload_n (pc2 := 79) hX 3 d_St_year_78 rfl rfl rfl ?_
      exact sx_iret hX hE h d_St_year_79
    · replace h := sx_f h hc1
      refine sx_aload_n (pc2 := 44) hX 0 d_St_year_43 rfl rfl rfl ?_
      refine sx_iload_n (pc2 := 45) hX 1 d_St_year_44 rfl rfl rfl ?_
      refine sx_iload (pc2 := 47) hX 4 d_St_year_45 rfl rfl ?_
      refine cl_St_244 (pc2 := 50) hX hK h  ⟨Nat.le_of_ble_eq_true rfl, Nat.le_of_ble_eq_true rfl⟩ (Nat.le_of_ble_eq_true rfl) d_St_year_47 rfl (fun σ2 τ2 h => ?_)
      refine sx_iload_n (pc2 := 51) hX 3 d_St_year_50 rfl rfl rfl ?_
      refine sx_aload_n (pc2 := 52) hX 0 d_St_year_51 rfl rfl rfl ?_
      refine fg_St_57 (pc2 := 55) hX (hK 0 0 0 (by decide) (by decide)) d_St_year_52 rfl ?_
      refine sx_aload_n (pc2 := 56) hX 0 d_St_year_55 rfl rfl rfl ?_
      refine fg_St_39 (pc2 := 59) hX (hK 0 0 0 (by decide) (by decide)) d_St_year_56 rfl ?_
      refine cl_St_228 (pc2 := 62) hX hK h (by decide) ⟨Nat.le_of_ble_eq_true rfl, Nat.le_of_ble_eq_true rfl⟩ (Nat.le_of_ble_eq_true rfl) d_St_year_59 rfl (fun r3 σ3 τ3 h => ?_)
      refine sx_if_eq (tgt := 69) (pc2 := 65) hX d_St_year_62 (by decide) rfl (fun hc4 => ?_) (fun hc4 => ?_)
      · replace h := sx_t h hc4
        refine sx_iconst (v := 0) (pc2 := 70) hX d_St_year_69 (by decide) rfl ?_
        refine sx_sub [(0, .ref (K.2.2.1 0 0 0)), (1, .int v1), (2, .int v2), (4, .int v4)] [0, 1, 2, 4] rfl ?_
        exact g_St_year_b70 hX hK hE  ih v1 v2 v4 v3 0 _ _ h
      · replace h := sx_f h hc4
        refine sx_iconst (v := 1) (pc2 := 66) hX d_St_year_65 (by decide) rfl ?_
        refine sx_goto (tgt := 70) hX d_St_year_66 (by decide) ?_
        refine sx_sub [(0, .ref (K.2.2.1 0 0 0)), (1, .int v1), (2, .int v2), (4, .int v4)] [0, 1, 2, 4] rfl ?_
        exact g_St_year_b70 hX hK hE  ih v1 v2 v4 v3 1 _ _ h
set_option maxRecDepth 100000 in
set_option maxHeartbeats 4000000 in
theorem g_St_year_b18 {l : Launch} {K : sx_K} {X : sx_T}   {Q : Int32 → sx_M → Prop} (hX : sx_C X K prog_1_method_35_code 5 "SensorTree" (some .int) rm_St_year l) (hK : kx_C K) (hE : sx_E X K (sx_Qi K (fun r σ _ => Q r σ)))   (σ : sx_M) (τ : sx_L)  (h : wp_St_year_b18 Q  σ) : sx_G X K 5 18 [] [] (sx_H K σ τ) := by
  unfold wp_St_year_b18 at h
  refine sx_iconst (v := (-1)) (pc2 := 19) hX d_St_year_18 (by decide) rfl ?_
  exact sx_iret hX hE h d_St_year_19
set_option maxRecDepth 100000 in
set_option maxHeartbeats 4000000 in
theorem c_St_year {l : Launch} {K : sx_K} (hK : kx_C K) (x1 : Int32) (x2 : Int32) (σ : sx_M) (τ : sx_L) (Q : Int32 → sx_M → Prop)  (h : wp_St_year x1 x2 σ Q) : Met l y_St_year (sx_wd y_St_year prog_1_method_35_code 5 (some .int)) rm_St_year (sx_Pc K [.ref (K.2.2.1 0 0 0), .int x1, .int x2] σ τ) (sx_Qi K (fun r σ _ => Q r σ)) 0 0 (sx_A K) := by
  refine sx_met (by decide) (Nat.le_of_ble_eq_true rfl) (fun X hX hE => ?_)
  replace hX : sx_C X K prog_1_method_35_code 5 "SensorTree" (some .int) rm_St_year l := hX
  show sx_G X K 5 0 [(0, .ref (K.2.2.1 0 0 0)), (1, .int x1), (2, .int x2)] [] (sx_H K σ τ)
  unfold wp_St_year at h
  refine sx_iload_n (pc2 := 1) hX 1 d_St_year_0 rfl rfl rfl ?_
  refine cl_St_115 (pc2 := 4) hX hK h  ⟨Nat.le_of_ble_eq_true rfl, Nat.le_of_ble_eq_true rfl⟩ (Nat.le_of_ble_eq_true rfl) d_St_year_1 rfl (fun r5 σ5 τ5 h => ?_)
  refine sx_if_eq (tgt := 18) (pc2 := 7) hX d_St_year_4 (by decide) rfl (fun hc6 => ?_) (fun hc6 => ?_)
  · replace h := sx_t h hc6
    refine sx_sub [] [] rfl ?_
    exact g_St_year_b18 hX hK hE   _ _ h
  · replace h := sx_f h hc6
    refine sx_iload_n (pc2 := 8) hX 2 d_St_year_7 rfl rfl rfl ?_
    refine sx_iconst (v := 1) (pc2 := 9) hX d_St_year_8 (by decide) rfl ?_
    refine sx_icmp_lt (tgt := 18) (pc2 := 12) hX d_St_year_9 (by decide) rfl (fun hc7 => ?_) (fun hc7 => ?_)
    · replace h := sx_t h hc7
      refine sx_sub [] [] rfl ?_
      exact g_St_year_b18 hX hK hE   _ _ h
    · replace h := sx_f h hc7
      refine sx_iload_n (pc2 := 13) hX 2 d_St_year_12 rfl rfl rfl ?_
      refine sx_bipush (v := 10) (pc2 := 15) hX d_St_year_13 (by decide) rfl ?_
      refine sx_icmp_le (tgt := 20) (pc2 := 18) hX d_St_year_15 (by decide) rfl (fun hc8 => ?_) (fun hc8 => ?_)
      · replace h := sx_t h hc8
        refine sx_aload_n (pc2 := 21) hX 0 d_St_year_20 rfl rfl rfl ?_
        refine fg_St_57 (pc2 := 24) hX (hK 0 0 0 (by decide) (by decide)) d_St_year_21 rfl ?_
        refine sx_aload_n (pc2 := 25) hX 0 d_St_year_24 rfl rfl rfl ?_
        refine fg_St_35 (pc2 := 28) hX (hK 0 0 0 (by decide) (by decide)) d_St_year_25 rfl ?_
        refine sx_iconst (v := (-1)) (pc2 := 29) hX d_St_year_28 (by decide) rfl ?_
        refine cl_St_221 (pc2 := 32) hX hK h (by decide) ⟨Nat.le_of_ble_eq_true rfl, Nat.le_of_ble_eq_true rfl⟩ (Nat.le_of_ble_eq_true rfl) d_St_year_29 rfl (fun σ9 τ9 h => ?_)
        refine sx_iconst (v := 0) (pc2 := 33) hX d_St_year_32 (by decide) rfl ?_
        refine sx_istore_n (pc2 := 34) hX _ [(0, .ref (K.2.2.1 0 0 0)), (1, .int x1), (2, .int x2), (3, .int 0)] [1, 2, 3, 0] d_St_year_33 rfl (by decide) rfl rfl rfl ?_
        refine sx_iconst (v := 0) (pc2 := 35) hX d_St_year_34 (by decide) rfl ?_
        refine sx_istore (pc2 := 37) hX _ [(0, .ref (K.2.2.1 0 0 0)), (1, .int x1), (2, .int x2), (3, .int 0), (4, .int 0)] [1, 2, 3, 4, 0] d_St_year_35 (by decide) rfl rfl rfl ?_
        obtain ⟨f37, h⟩ := h
        exact g_St_year_b37 hX hK hE   f37 x1 x2 0 0 _ _ h
      · replace h := sx_f h hc8
        refine sx_sub [] [] rfl ?_
        exact g_St_year_b18 hX hK hE   _ _ h
def y_St_hold : MethodName := ⟨"SensorTree", "hold", "(I)Z"⟩
theorem hy_St_hold : y_St_hold.cls ≠ "java/lang/invoke/MethodHandle" ∧ y_St_hold.cls ≠ "java/lang/invoke/VarHandle" ∧ (parseMethodDescriptor y_St_hold.desc).map (fun d => d.parameters.length) = some 1 := by decide +kernel
theorem d_St_hold_0 : decode prog_1_method_36_code 0 = .ok (.iload_n 1, 1) := by decide +kernel
theorem d_St_hold_1 : decode prog_1_method_36_code 1 = .ok (.ifCond .lt 8, 3) := by decide +kernel
theorem d_St_hold_4 : decode prog_1_method_36_code 4 = .ok (.iload_n 1, 1) := by decide +kernel
theorem d_St_hold_5 : decode prog_1_method_36_code 5 = .ok (.iconst 3, 1) := by decide +kernel
theorem d_St_hold_6 : decode prog_1_method_36_code 6 = .ok (.if_icmp .lt 5, 3) := by decide +kernel
theorem d_St_hold_9 : decode prog_1_method_36_code 9 = .ok (.iconst 0, 1) := by decide +kernel
theorem d_St_hold_10 : decode prog_1_method_36_code 10 = .ok (.ireturn, 1) := by decide +kernel
theorem d_St_hold_11 : decode prog_1_method_36_code 11 = .ok (.aload_n 0, 1) := by decide +kernel
theorem d_St_hold_12 : decode prog_1_method_36_code 12 = .ok (.getfield 79, 3) := by decide +kernel
theorem d_St_hold_15 : decode prog_1_method_36_code 15 = .ok (.iload_n 1, 1) := by decide +kernel
theorem d_St_hold_16 : decode prog_1_method_36_code 16 = .ok (.aaload, 1) := by decide +kernel
theorem d_St_hold_17 : decode prog_1_method_36_code 17 = .ok (.aload_n 0, 1) := by decide +kernel
theorem d_St_hold_18 : decode prog_1_method_36_code 18 = .ok (.getfield 35, 3) := by decide +kernel
theorem d_St_hold_21 : decode prog_1_method_36_code 21 = .ok (.invokevirtual 191, 3) := by decide +kernel
theorem d_St_hold_24 : decode prog_1_method_36_code 24 = .ok (.aload_n 0, 1) := by decide +kernel
theorem d_St_hold_25 : decode prog_1_method_36_code 25 = .ok (.getfield 82, 3) := by decide +kernel
theorem d_St_hold_28 : decode prog_1_method_36_code 28 = .ok (.iload_n 1, 1) := by decide +kernel
theorem d_St_hold_29 : decode prog_1_method_36_code 29 = .ok (.iconst 1, 1) := by decide +kernel
theorem d_St_hold_30 : decode prog_1_method_36_code 30 = .ok (.bastore, 1) := by decide +kernel
theorem d_St_hold_31 : decode prog_1_method_36_code 31 = .ok (.iconst 1, 1) := by decide +kernel
theorem d_St_hold_32 : decode prog_1_method_36_code 32 = .ok (.ireturn, 1) := by decide +kernel
def wp_St_hold_b9   (Q : Int32 → sx_M → Prop)  (σ : sx_M) : Prop := Q 0 σ
def wp_St_hold (x1 : Int32) (σ : sx_M) (Q : Int32 → sx_M → Prop) : Prop := if x1 < 0 then (wp_St_hold_b9 Q σ) else (if x1 < 3 then (vp_in x1 3 ∧ (wp_Ne_copyFrom (22 + x1.toNatClampNeg) 0 σ (fun σ4 => vp_in x1 3 ∧ (∀ σ6 : sx_M, σ6 = sx_u σ4 39 0 0 x1.toNatClampNeg (vp_nar .boolean 1) → (Q 1 σ6))))) else (wp_St_hold_b9 Q σ))
abbrev rm_St_hold : Room := { frames := 3, cells := 0, slots := 0, locals := 61 }
set_option maxRecDepth 100000 in
set_option maxHeartbeats 4000000 in
theorem g_St_hold_b9 {l : Launch} {K : sx_K} {X : sx_T}   {Q : Int32 → sx_M → Prop} (hX : sx_C X K prog_1_method_36_code 2 "SensorTree" (some .boolean) rm_St_hold l) (hK : kx_C K) (hE : sx_E X K (sx_Qi K (fun r σ _ => Q r σ)))   (σ : sx_M) (τ : sx_L)  (h : wp_St_hold_b9 Q  σ) : sx_G X K 2 9 [] [] (sx_H K σ τ) := by
  unfold wp_St_hold_b9 at h
  refine sx_iconst (v := 0) (pc2 := 10) hX d_St_hold_9 (by decide) rfl ?_
  exact sx_zret hX hE (by decide) h d_St_hold_10
set_option maxRecDepth 100000 in
set_option maxHeartbeats 4000000 in
theorem c_St_hold {l : Launch} {K : sx_K} (hK : kx_C K) (x1 : Int32) (σ : sx_M) (τ : sx_L) (Q : Int32 → sx_M → Prop)  (h : wp_St_hold x1 σ Q) : Met l y_St_hold (sx_wd y_St_hold prog_1_method_36_code 2 (some .boolean)) rm_St_hold (sx_Pc K [.ref (K.2.2.1 0 0 0), .int x1] σ τ) (sx_Qi K (fun r σ _ => Q r σ)) 0 0 (sx_A K) := by
  refine sx_met (by decide) (Nat.le_of_ble_eq_true rfl) (fun X hX hE => ?_)
  replace hX : sx_C X K prog_1_method_36_code 2 "SensorTree" (some .boolean) rm_St_hold l := hX
  show sx_G X K 2 0 [(0, .ref (K.2.2.1 0 0 0)), (1, .int x1)] [] (sx_H K σ τ)
  unfold wp_St_hold at h
  refine sx_iload_n (pc2 := 1) hX 1 d_St_hold_0 rfl rfl rfl ?_
  refine sx_if_lt (tgt := 9) (pc2 := 4) hX d_St_hold_1 (by decide) rfl (fun hc1 => ?_) (fun hc1 => ?_)
  · replace h := sx_t h hc1
    refine sx_sub [] [] rfl ?_
    exact g_St_hold_b9 hX hK hE   _ _ h
  · replace h := sx_f h hc1
    refine sx_iload_n (pc2 := 5) hX 1 d_St_hold_4 rfl rfl rfl ?_
    refine sx_iconst (v := 3) (pc2 := 6) hX d_St_hold_5 (by decide) rfl ?_
    refine sx_icmp_lt (tgt := 11) (pc2 := 9) hX d_St_hold_6 (by decide) rfl (fun hc2 => ?_) (fun hc2 => ?_)
    · replace h := sx_t h hc2
      refine sx_aload_n (pc2 := 12) hX 0 d_St_hold_11 rfl rfl rfl ?_
      refine fg_St_79 (pc2 := 15) hX (hK 0 0 0 (by decide) (by decide)) d_St_hold_12 rfl ?_
      refine sx_iload_n (pc2 := 16) hX 1 d_St_hold_15 rfl rfl rfl ?_
      obtain ⟨hc3, h⟩ := h
      refine sx_aald (a := K.2.2.1 16 (22 + x1.toNatClampNeg) 0) (pc2 := 17) hX (hK 38 0 0 (by decide) (by decide)) 5 rfl rfl rfl hc3 d_St_hold_16 rfl ?_
      refine sx_aload_n (pc2 := 18) hX 0 d_St_hold_17 rfl rfl rfl ?_
      refine fg_St_35 (pc2 := 21) hX (hK 0 0 0 (by decide) (by decide)) d_St_hold_18 rfl ?_
      refine cl_St_191 (pc2 := 24) hX hK h (sx_slot hc3) (by decide) ⟨Nat.le_of_ble_eq_true rfl, Nat.le_of_ble_eq_true rfl⟩ (Nat.le_of_ble_eq_true rfl) d_St_hold_21 rfl (fun σ4 τ4 h => ?_)
      refine sx_aload_n (pc2 := 25) hX 0 d_St_hold_24 rfl rfl rfl ?_
      refine fg_St_82 (pc2 := 28) hX (hK 0 0 0 (by decide) (by decide)) d_St_hold_25 rfl ?_
      refine sx_iload_n (pc2 := 29) hX 1 d_St_hold_28 rfl rfl rfl ?_
      refine sx_iconst (v := 1) (pc2 := 30) hX d_St_hold_29 (by decide) rfl ?_
      obtain ⟨hc5, h⟩ := h
      refine sx_zast (pc2 := 31) hX (hK 39 0 0 (by decide) (by decide)) (fun _ => rfl) hc5 d_St_hold_30 rfl ?_
      refine sx_nm (fun σ6 e6 => ?_)
      replace h := h σ6 e6
      refine sx_iconst (v := 1) (pc2 := 32) hX d_St_hold_31 (by decide) rfl ?_
      exact sx_zret hX hE (by decide) h d_St_hold_32
    · replace h := sx_f h hc2
      refine sx_sub [] [] rfl ?_
      exact g_St_hold_b9 hX hK hE   _ _ h
def y_St_restore : MethodName := ⟨"SensorTree", "restore", "(I)Z"⟩
theorem hy_St_restore : y_St_restore.cls ≠ "java/lang/invoke/MethodHandle" ∧ y_St_restore.cls ≠ "java/lang/invoke/VarHandle" ∧ (parseMethodDescriptor y_St_restore.desc).map (fun d => d.parameters.length) = some 1 := by decide +kernel
theorem d_St_restore_0 : decode prog_1_method_37_code 0 = .ok (.iload_n 1, 1) := by decide +kernel
theorem d_St_restore_1 : decode prog_1_method_37_code 1 = .ok (.ifCond .lt 17, 3) := by decide +kernel
theorem d_St_restore_4 : decode prog_1_method_37_code 4 = .ok (.iload_n 1, 1) := by decide +kernel
theorem d_St_restore_5 : decode prog_1_method_37_code 5 = .ok (.iconst 3, 1) := by decide +kernel
theorem d_St_restore_6 : decode prog_1_method_37_code 6 = .ok (.if_icmp .ge 12, 3) := by decide +kernel
theorem d_St_restore_9 : decode prog_1_method_37_code 9 = .ok (.aload_n 0, 1) := by decide +kernel
theorem d_St_restore_10 : decode prog_1_method_37_code 10 = .ok (.getfield 82, 3) := by decide +kernel
theorem d_St_restore_13 : decode prog_1_method_37_code 13 = .ok (.iload_n 1, 1) := by decide +kernel
theorem d_St_restore_14 : decode prog_1_method_37_code 14 = .ok (.baload, 1) := by decide +kernel
theorem d_St_restore_15 : decode prog_1_method_37_code 15 = .ok (.ifCond .ne 5, 3) := by decide +kernel
theorem d_St_restore_18 : decode prog_1_method_37_code 18 = .ok (.iconst 0, 1) := by decide +kernel
theorem d_St_restore_19 : decode prog_1_method_37_code 19 = .ok (.ireturn, 1) := by decide +kernel
theorem d_St_restore_20 : decode prog_1_method_37_code 20 = .ok (.aload_n 0, 1) := by decide +kernel
theorem d_St_restore_21 : decode prog_1_method_37_code 21 = .ok (.getfield 35, 3) := by decide +kernel
theorem d_St_restore_24 : decode prog_1_method_37_code 24 = .ok (.aload_n 0, 1) := by decide +kernel
theorem d_St_restore_25 : decode prog_1_method_37_code 25 = .ok (.getfield 79, 3) := by decide +kernel
theorem d_St_restore_28 : decode prog_1_method_37_code 28 = .ok (.iload_n 1, 1) := by decide +kernel
theorem d_St_restore_29 : decode prog_1_method_37_code 29 = .ok (.aaload, 1) := by decide +kernel
theorem d_St_restore_30 : decode prog_1_method_37_code 30 = .ok (.invokevirtual 191, 3) := by decide +kernel
theorem d_St_restore_33 : decode prog_1_method_37_code 33 = .ok (.aload_n 0, 1) := by decide +kernel
theorem d_St_restore_34 : decode prog_1_method_37_code 34 = .ok (.invokevirtual 109, 3) := by decide +kernel
theorem d_St_restore_37 : decode prog_1_method_37_code 37 = .ok (.iconst 1, 1) := by decide +kernel
theorem d_St_restore_38 : decode prog_1_method_37_code 38 = .ok (.ireturn, 1) := by decide +kernel
def wp_St_restore_b18   (Q : Int32 → sx_M → Prop)  (σ : sx_M) : Prop := Q 0 σ
def wp_St_restore (x1 : Int32) (σ : sx_M) (Q : Int32 → sx_M → Prop) : Prop := if x1 < 0 then (wp_St_restore_b18 Q σ) else (if 3 ≤ x1 then (wp_St_restore_b18 Q σ) else (vp_in x1 3 ∧ (if σ 39 0 0 x1.toNatClampNeg = 0 then (wp_St_restore_b18 Q σ) else (vp_in x1 3 ∧ (wp_Ne_copyFrom 0 (22 + x1.toNatClampNeg) σ (fun σ6 => wp_St_forgetPast σ6 (fun σ7 => Q 1 σ7)))))))
abbrev rm_St_restore : Room := { frames := 3, cells := 0, slots := 0, locals := 61 }
set_option maxRecDepth 100000 in
set_option maxHeartbeats 4000000 in
theorem g_St_restore_b18 {l : Launch} {K : sx_K} {X : sx_T}   {Q : Int32 → sx_M → Prop} (hX : sx_C X K prog_1_method_37_code 2 "SensorTree" (some .boolean) rm_St_restore l) (hK : kx_C K) (hE : sx_E X K (sx_Qi K (fun r σ _ => Q r σ)))   (σ : sx_M) (τ : sx_L)  (h : wp_St_restore_b18 Q  σ) : sx_G X K 2 18 [] [] (sx_H K σ τ) := by
  unfold wp_St_restore_b18 at h
  refine sx_iconst (v := 0) (pc2 := 19) hX d_St_restore_18 (by decide) rfl ?_
  exact sx_zret hX hE (by decide) h d_St_restore_19
set_option maxRecDepth 100000 in
set_option maxHeartbeats 4000000 in
theorem c_St_restore {l : Launch} {K : sx_K} (hK : kx_C K) (x1 : Int32) (σ : sx_M) (τ : sx_L) (Q : Int32 → sx_M → Prop)  (h : wp_St_restore x1 σ Q) : Met l y_St_restore (sx_wd y_St_restore prog_1_method_37_code 2 (some .boolean)) rm_St_restore (sx_Pc K [.ref (K.2.2.1 0 0 0), .int x1] σ τ) (sx_Qi K (fun r σ _ => Q r σ)) 0 0 (sx_A K) := by
  refine sx_met (by decide) (Nat.le_of_ble_eq_true rfl) (fun X hX hE => ?_)
  replace hX : sx_C X K prog_1_method_37_code 2 "SensorTree" (some .boolean) rm_St_restore l := hX
  show sx_G X K 2 0 [(0, .ref (K.2.2.1 0 0 0)), (1, .int x1)] [] (sx_H K σ τ)
  unfold wp_St_restore at h
  refine sx_iload_n (pc2 := 1) hX 1 d_St_restore_0 rfl rfl rfl ?_
  refine sx_if_lt (tgt := 18) (pc2 := 4) hX d_St_restore_1 (by decide) rfl (fun hc1 => ?_) (fun hc1 => ?_)
  · replace h := sx_t h hc1
    refine sx_sub [] [] rfl ?_
    exact g_St_restore_b18 hX hK hE   _ _ h
  · replace h := sx_f h hc1
    refine sx_iload_n (pc2 := 5) hX 1 d_St_restore_4 rfl rfl rfl ?_
    refine sx_iconst (v := 3) (pc2 := 6) hX d_St_restore_5 (by decide) rfl ?_
    refine sx_icmp_ge (tgt := 18) (pc2 := 9) hX d_St_restore_6 (by decide) rfl (fun hc2 => ?_) (fun hc2 => ?_)
    · replace h := sx_t h hc2
      refine sx_sub [] [] rfl ?_
      exact g_St_restore_b18 hX hK hE   _ _ h
    · replace h := sx_f h hc2
      refine sx_aload_n (pc2 := 10) hX 0 d_St_restore_9 rfl rfl rfl ?_
      refine fg_St_82 (pc2 := 13) hX (hK 0 0 0 (by decide) (by decide)) d_St_restore_10 rfl ?_
      refine sx_iload_n (pc2 := 14) hX 1 d_St_restore_13 rfl rfl rfl ?_
      obtain ⟨hc3, h⟩ := h
      refine sx_zald (pc2 := 15) hX (hK 39 0 0 (by decide) (by decide)) rfl hc3 d_St_restore_14 rfl ?_
      refine sx_if_ne (tgt := 20) (pc2 := 18) hX d_St_restore_15 (by decide) rfl (fun hc4 => ?_) (fun hc4 => ?_)
      · replace h := sx_f h hc4
        refine sx_aload_n (pc2 := 21) hX 0 d_St_restore_20 rfl rfl rfl ?_
        refine fg_St_35 (pc2 := 24) hX (hK 0 0 0 (by decide) (by decide)) d_St_restore_21 rfl ?_
        refine sx_aload_n (pc2 := 25) hX 0 d_St_restore_24 rfl rfl rfl ?_
        refine fg_St_79 (pc2 := 28) hX (hK 0 0 0 (by decide) (by decide)) d_St_restore_25 rfl ?_
        refine sx_iload_n (pc2 := 29) hX 1 d_St_restore_28 rfl rfl rfl ?_
        obtain ⟨hc5, h⟩ := h
        refine sx_aald (a := K.2.2.1 16 (22 + x1.toNatClampNeg) 0) (pc2 := 30) hX (hK 38 0 0 (by decide) (by decide)) 5 rfl rfl rfl hc5 d_St_restore_29 rfl ?_
        refine cl_St_191 (pc2 := 33) hX hK h (by decide) (sx_slot hc5) ⟨Nat.le_of_ble_eq_true rfl, Nat.le_of_ble_eq_true rfl⟩ (Nat.le_of_ble_eq_true rfl) d_St_restore_30 rfl (fun σ6 τ6 h => ?_)
        refine sx_aload_n (pc2 := 34) hX 0 d_St_restore_33 rfl rfl rfl ?_
        refine cl_St_109 (pc2 := 37) hX hK h  ⟨Nat.le_of_ble_eq_true rfl, Nat.le_of_ble_eq_true rfl⟩ (Nat.le_of_ble_eq_true rfl) d_St_restore_34 rfl (fun σ7 τ7 h => ?_)
        refine sx_iconst (v := 1) (pc2 := 38) hX d_St_restore_37 (by decide) rfl ?_
        exact sx_zret hX hE (by decide) h d_St_restore_38
      · replace h := sx_t h hc4
        refine sx_sub [] [] rfl ?_
        exact g_St_restore_b18 hX hK hE   _ _ h
