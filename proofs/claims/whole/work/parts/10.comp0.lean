def y_Po_forgetHeard : MethodName := ⟨"SensorTree$Post", "forgetHeard", "()V"⟩
theorem hy_Po_forgetHeard : y_Po_forgetHeard.cls ≠ "java/lang/invoke/MethodHandle" ∧ y_Po_forgetHeard.cls ≠ "java/lang/invoke/VarHandle" ∧ (parseMethodDescriptor y_Po_forgetHeard.desc).map (fun d => d.parameters.length) = some 0 := by decide +kernel
theorem d_Po_forgetHeard_0 : decode prog_7_method_3_code 0 = .ok (.iconst 0, 1) := by decide +kernel
theorem d_Po_forgetHeard_1 : decode prog_7_method_3_code 1 = .ok (.istore_n 1, 1) := by decide +kernel
theorem d_Po_forgetHeard_2 : decode prog_7_method_3_code 2 = .ok (.iload_n 1, 1) := by decide +kernel
theorem d_Po_forgetHeard_3 : decode prog_7_method_3_code 3 = .ok (.bipush 7, 2) := by decide +kernel
theorem d_Po_forgetHeard_5 : decode prog_7_method_3_code 5 = .ok (.if_icmp .ge 18, 3) := by decide +kernel
theorem d_Po_forgetHeard_8 : decode prog_7_method_3_code 8 = .ok (.aload_n 0, 1) := by decide +kernel
theorem d_Po_forgetHeard_9 : decode prog_7_method_3_code 9 = .ok (.getfield 9, 3) := by decide +kernel
theorem d_Po_forgetHeard_12 : decode prog_7_method_3_code 12 = .ok (.iload_n 1, 1) := by decide +kernel
theorem d_Po_forgetHeard_13 : decode prog_7_method_3_code 13 = .ok (.sipush 9999, 3) := by decide +kernel
theorem d_Po_forgetHeard_16 : decode prog_7_method_3_code 16 = .ok (.iastore, 1) := by decide +kernel
theorem d_Po_forgetHeard_17 : decode prog_7_method_3_code 17 = .ok (.iinc 1 1, 3) := by decide +kernel
theorem d_Po_forgetHeard_20 : decode prog_7_method_3_code 20 = .ok (.goto (-18), 3) := by decide +kernel
theorem d_Po_forgetHeard_23 : decode prog_7_method_3_code 23 = .ok (.return_, 1) := by decide +kernel
def wp_Po_forgetHeard_b2 (n : Nat) (p : Nat)  (Q : sx_M → Prop) : Nat → Int32 → sx_M → Prop
  | 0, _, _ => False
  | f + 1, v1, σ => if 7 ≤ v1 then (Q σ) else (vp_in v1 7 ∧ (∀ σ3 : sx_M, σ3 = sx_u σ 28 n p v1.toNatClampNeg 9999 → (wp_Po_forgetHeard_b2 n p Q f (v1 + 1) σ3)))
def wp_Po_forgetHeard (n : Nat) (p : Nat) (σ : sx_M) (Q : sx_M → Prop) : Prop := ∃ f2, wp_Po_forgetHeard_b2 n p Q f2 0 σ
abbrev rm_Po_forgetHeard : Room := { frames := 0, cells := 0, slots := 0, locals := 0 }
set_option maxRecDepth 100000 in
set_option maxHeartbeats 4000000 in
theorem g_Po_forgetHeard_b2 {l : Launch} {K : sx_K} {X : sx_T} {n : Nat} {p : Nat}  {Q : sx_M → Prop} (hX : sx_C X K prog_7_method_3_code 2 "SensorTree$Post" none rm_Po_forgetHeard l) (hK : kx_C K) (hE : sx_E X K (sx_Qv K (fun σ _ => Q σ))) (hn : n < 25) (hp : p < 7) : ∀ (f : Nat) (v1 : Int32) (σ : sx_M) (τ : sx_L) , wp_Po_forgetHeard_b2 n p Q f v1 σ → sx_G X K 2 2 [(0, .ref (K.2.2.1 27 n p)), (1, .int v1)] [] (sx_H K σ τ) := by
  intro f
  induction f with
  | zero => intro v1 σ τ h; exact (show False from h).elim
  | succ f ih =>
    intro v1 σ τ h
    rw [wp_Po_forgetHeard_b2] at h
    refine sx_iload_n (pc2 := 3) hX 1 d_Po_forgetHeard_2 rfl rfl rfl ?_
    refine sx_bipush (v := 7) (pc2 := 5) hX d_Po_forgetHeard_3 (by decide) rfl ?_
    refine sx_icmp_ge (tgt := 23) (pc2 := 8) hX d_Po_forgetHeard_5 (by decide) rfl (fun hc1 => ?_) (fun hc1 => ?_)
    · replace h := sx_t h hc1
      exact sx_vret hX hE h d_Po_forgetHeard_23
    · replace h := sx_f h hc1
      refine sx_aload_n (pc2 := 9) hX 0 d_Po_forgetHeard_8 rfl rfl rfl ?_
      refine fg_Po_9 (pc2 := 12) hX (hK 27 n p hn hp) d_Po_forgetHeard_9 rfl ?_
      refine sx_iload_n (pc2 := 13) hX 1 d_Po_forgetHeard_12 rfl rfl rfl ?_
      refine sx_sipush (v := 9999) (pc2 := 16) hX d_Po_forgetHeard_13 (by decide) rfl ?_
      obtain ⟨hc2, h⟩ := h
      refine sx_iast (pc2 := 17) hX (hK 28 n p hn hp) (fun _ => rfl) hc2 d_Po_forgetHeard_16 rfl ?_
      refine sx_nm (fun σ3 e3 => ?_)
      replace h := h σ3 e3
      refine sx_iinc (pc2 := 20) hX 1 _ [(0, .ref (K.2.2.1 27 n p)), (1, .int (v1 + 1))] [1, 0] d_Po_forgetHeard_17 rfl (v1 + 1) rfl (by decide) rfl rfl rfl ?_
      refine sx_goto (tgt := 2) hX d_Po_forgetHeard_20 (by decide) ?_
      exact ih (v1 + 1) _ _ h
set_option maxRecDepth 100000 in
set_option maxHeartbeats 4000000 in
theorem c_Po_forgetHeard {l : Launch} {K : sx_K} (hK : kx_C K) (n : Nat) (p : Nat) (σ : sx_M) (τ : sx_L) (Q : sx_M → Prop) (hn : n < 25) (hp : p < 7) (h : wp_Po_forgetHeard n p σ Q) : Met l y_Po_forgetHeard (sx_wd y_Po_forgetHeard prog_7_method_3_code 2 none) rm_Po_forgetHeard (sx_Pc K [.ref (K.2.2.1 27 n p)] σ τ) (sx_Qv K (fun σ _ => Q σ)) 0 0 (sx_A K) := by
  refine sx_met (by decide) (Nat.le_of_ble_eq_true rfl) (fun X hX hE => ?_)
  replace hX : sx_C X K prog_7_method_3_code 2 "SensorTree$Post" none rm_Po_forgetHeard l := hX
  show sx_G X K 2 0 [(0, .ref (K.2.2.1 27 n p))] [] (sx_H K σ τ)
  unfold wp_Po_forgetHeard at h
  refine sx_iconst (v := 0) (pc2 := 1) hX d_Po_forgetHeard_0 (by decide) rfl ?_
  refine sx_istore_n (pc2 := 2) hX _ [(0, .ref (K.2.2.1 27 n p)), (1, .int 0)] [1, 0] d_Po_forgetHeard_1 rfl (by decide) rfl rfl rfl ?_
  obtain ⟨f2, h⟩ := h
  exact g_Po_forgetHeard_b2 hX hK hE hn hp  f2 0 _ _ h
theorem cl_Po_41 {X : sx_T} {K : sx_K} {cc : ByteArray} {nL : Nat} {ret : Option FieldType} {rm : Room} {l : Launch} {pc pc2 : Nat} {lv : List (Nat × Value)} {st : List Value} {σ : sx_M} {τ : sx_L} {n : Nat} {p : Nat} {Q : sx_M → Prop} (hX : sx_C X K cc nL "SensorTree$Post" ret rm l) (hK : kx_C K) (h : wp_Po_forgetHeard n p σ Q) (hn : n < 25) (hp : p < 7) (hR : rm_Po_forgetHeard.frames + 1 ≤ rm.frames ∧ 8 + (2 + 11) + rm_Po_forgetHeard.locals ≤ rm.locals) (hst : (st.map fun v => v.category).sum ≤ 8) (hd : decode cc pc = .ok (.invokevirtual 41, 3)) (hpc : pc + 3 = pc2) (kk : ∀ (σ2 : sx_M) (τ2 : sx_L), Q σ2 → sx_G X K nL pc2 lv (st) (sx_H K σ2 τ2)) : sx_G X K nL pc lv (.ref (K.2.2.1 27 n p) :: st) (sx_H K σ τ) :=
  sx_callVv (Q := fun σ _ => Q σ) (As := []) hX (c_Po_forgetHeard hK n p σ τ Q hn hp h) (hK 27 n p hn hp) rfl rfl lk_25 lk_26 hy_Po_forgetHeard lk_23 lk_22 lk_24 ⟨rfl, rfl⟩ hR hst rfl hd hpc kk
theorem cl_En_195 {X : sx_T} {K : sx_K} {cc : ByteArray} {nL : Nat} {ret : Option FieldType} {rm : Room} {l : Launch} {pc pc2 : Nat} {lv : List (Nat × Value)} {st : List Value} {σ : sx_M} {τ : sx_L} {n : Nat} {p : Nat} {Q : sx_M → Prop} (hX : sx_C X K cc nL "SensorTree$Engine" ret rm l) (hK : kx_C K) (h : wp_Po_forgetHeard n p σ Q) (hn : n < 25) (hp : p < 7) (hR : rm_Po_forgetHeard.frames + 1 ≤ rm.frames ∧ 8 + (2 + 11) + rm_Po_forgetHeard.locals ≤ rm.locals) (hst : (st.map fun v => v.category).sum ≤ 8) (hd : decode cc pc = .ok (.invokevirtual 195, 3)) (hpc : pc + 3 = pc2) (kk : ∀ (σ2 : sx_M) (τ2 : sx_L), Q σ2 → sx_G X K nL pc2 lv (st) (sx_H K σ2 τ2)) : sx_G X K nL pc lv (.ref (K.2.2.1 27 n p) :: st) (sx_H K σ τ) :=
  sx_callVv (Q := fun σ _ => Q σ) (As := []) hX (c_Po_forgetHeard hK n p σ τ Q hn hp h) (hK 27 n p hn hp) rfl rfl lk_25 lk_26 hy_Po_forgetHeard lk_23 lk_22 lk_46 ⟨rfl, rfl⟩ hR hst rfl hd hpc kk
def y_Po_clear : MethodName := ⟨"SensorTree$Post", "clear", "(I)V"⟩
theorem hy_Po_clear : y_Po_clear.cls ≠ "java/lang/invoke/MethodHandle" ∧ y_Po_clear.cls ≠ "java/lang/invoke/VarHandle" ∧ (parseMethodDescriptor y_Po_clear.desc).map (fun d => d.parameters.length) = some 1 := by decide +kernel
theorem d_Po_clear_0 : decode prog_7_method_2_code 0 = .ok (.aload_n 0, 1) := by decide +kernel
theorem d_Po_clear_1 : decode prog_7_method_2_code 1 = .ok (.iconst 1, 1) := by decide +kernel
theorem d_Po_clear_2 : decode prog_7_method_2_code 2 = .ok (.putfield 21, 3) := by decide +kernel
theorem d_Po_clear_5 : decode prog_7_method_2_code 5 = .ok (.aload_n 0, 1) := by decide +kernel
theorem d_Po_clear_6 : decode prog_7_method_2_code 6 = .ok (.iconst 0, 1) := by decide +kernel
theorem d_Po_clear_7 : decode prog_7_method_2_code 7 = .ok (.putfield 25, 3) := by decide +kernel
theorem d_Po_clear_10 : decode prog_7_method_2_code 10 = .ok (.aload_n 0, 1) := by decide +kernel
theorem d_Po_clear_11 : decode prog_7_method_2_code 11 = .ok (.iload_n 1, 1) := by decide +kernel
theorem d_Po_clear_12 : decode prog_7_method_2_code 12 = .ok (.putfield 29, 3) := by decide +kernel
theorem d_Po_clear_15 : decode prog_7_method_2_code 15 = .ok (.aload_n 0, 1) := by decide +kernel
theorem d_Po_clear_16 : decode prog_7_method_2_code 16 = .ok (.bipush (-2), 2) := by decide +kernel
theorem d_Po_clear_18 : decode prog_7_method_2_code 18 = .ok (.putfield 32, 3) := by decide +kernel
theorem d_Po_clear_21 : decode prog_7_method_2_code 21 = .ok (.aload_n 0, 1) := by decide +kernel
theorem d_Po_clear_22 : decode prog_7_method_2_code 22 = .ok (.sipush 9999, 3) := by decide +kernel
theorem d_Po_clear_25 : decode prog_7_method_2_code 25 = .ok (.putfield 35, 3) := by decide +kernel
theorem d_Po_clear_28 : decode prog_7_method_2_code 28 = .ok (.aload_n 0, 1) := by decide +kernel
theorem d_Po_clear_29 : decode prog_7_method_2_code 29 = .ok (.iconst 0, 1) := by decide +kernel
theorem d_Po_clear_30 : decode prog_7_method_2_code 30 = .ok (.putfield 38, 3) := by decide +kernel
theorem d_Po_clear_33 : decode prog_7_method_2_code 33 = .ok (.aload_n 0, 1) := by decide +kernel
theorem d_Po_clear_34 : decode prog_7_method_2_code 34 = .ok (.invokevirtual 41, 3) := by decide +kernel
theorem d_Po_clear_37 : decode prog_7_method_2_code 37 = .ok (.iconst 0, 1) := by decide +kernel
theorem d_Po_clear_38 : decode prog_7_method_2_code 38 = .ok (.istore_n 2, 1) := by decide +kernel
theorem d_Po_clear_39 : decode prog_7_method_2_code 39 = .ok (.iload_n 2, 1) := by decide +kernel
theorem d_Po_clear_40 : decode prog_7_method_2_code 40 = .ok (.bipush 7, 2) := by decide +kernel
theorem d_Po_clear_42 : decode prog_7_method_2_code 42 = .ok (.if_icmp .ge 24, 3) := by decide +kernel
theorem d_Po_clear_45 : decode prog_7_method_2_code 45 = .ok (.aload_n 0, 1) := by decide +kernel
theorem d_Po_clear_46 : decode prog_7_method_2_code 46 = .ok (.getfield 15, 3) := by decide +kernel
theorem d_Po_clear_49 : decode prog_7_method_2_code 49 = .ok (.iload_n 2, 1) := by decide +kernel
theorem d_Po_clear_50 : decode prog_7_method_2_code 50 = .ok (.bipush (-2), 2) := by decide +kernel
theorem d_Po_clear_52 : decode prog_7_method_2_code 52 = .ok (.iastore, 1) := by decide +kernel
theorem d_Po_clear_53 : decode prog_7_method_2_code 53 = .ok (.aload_n 0, 1) := by decide +kernel
theorem d_Po_clear_54 : decode prog_7_method_2_code 54 = .ok (.getfield 18, 3) := by decide +kernel
theorem d_Po_clear_57 : decode prog_7_method_2_code 57 = .ok (.iload_n 2, 1) := by decide +kernel
theorem d_Po_clear_58 : decode prog_7_method_2_code 58 = .ok (.iconst 0, 1) := by decide +kernel
theorem d_Po_clear_59 : decode prog_7_method_2_code 59 = .ok (.iastore, 1) := by decide +kernel
theorem d_Po_clear_60 : decode prog_7_method_2_code 60 = .ok (.iinc 2 1, 3) := by decide +kernel
theorem d_Po_clear_63 : decode prog_7_method_2_code 63 = .ok (.goto (-24), 3) := by decide +kernel
theorem d_Po_clear_66 : decode prog_7_method_2_code 66 = .ok (.return_, 1) := by decide +kernel
def wp_Po_clear_b39 (n : Nat) (p : Nat)  (Q : sx_M → Prop) : Nat → Int32 → sx_M → Prop
  | 0, _, _ => False
  | f + 1, v2, σ => if 7 ≤ v2 then (Q σ) else (vp_in v2 7 ∧ (∀ σ3 : sx_M, σ3 = sx_u σ 29 n p v2.toNatClampNeg (-2) → (vp_in v2 7 ∧ (∀ σ5 : sx_M, σ5 = sx_u σ3 30 n p v2.toNatClampNeg 0 → (wp_Po_clear_b39 n p Q f (v2 + 1) σ5)))))
def wp_Po_clear (n : Nat) (p : Nat) (x1 : Int32) (σ : sx_M) (Q : sx_M → Prop) : Prop := ∀ σ6 : sx_M, σ6 = sx_u σ 27 n p 0 1 → (∀ σ7 : sx_M, σ7 = sx_u σ6 27 n p 1 0 → (∀ σ8 : sx_M, σ8 = sx_u σ7 27 n p 2 x1 → (∀ σ9 : sx_M, σ9 = sx_u σ8 27 n p 3 (-2) → (∀ σ10 : sx_M, σ10 = sx_u σ9 27 n p 4 9999 → (∀ σ11 : sx_M, σ11 = sx_u σ10 27 n p 5 0 → (wp_Po_forgetHeard n p σ11 (fun σ12 => ∃ f39, wp_Po_clear_b39 n p Q f39 0 σ12)))))))
abbrev rm_Po_clear : Room := { frames := 1, cells := 0, slots := 0, locals := 21 }
set_option maxRecDepth 100000 in
set_option maxHeartbeats 4000000 in
theorem g_Po_clear_b39 {l : Launch} {K : sx_K} {X : sx_T} {n : Nat} {p : Nat}  {Q : sx_M → Prop} (hX : sx_C X K prog_7_method_2_code 3 "SensorTree$Post" none rm_Po_clear l) (hK : kx_C K) (hE : sx_E X K (sx_Qv K (fun σ _ => Q σ))) (hn : n < 25) (hp : p < 7) : ∀ (f : Nat) (v2 : Int32) (σ : sx_M) (τ : sx_L) , wp_Po_clear_b39 n p Q f v2 σ → sx_G X K 3 39 [(0, .ref (K.2.2.1 27 n p)), (2, .int v2)] [] (sx_H K σ τ) := by
  intro f
  induction f with
  | zero => intro v2 σ τ h; exact (show False from h).elim
  | succ f ih =>
    intro v2 σ τ h
    rw [wp_Po_clear_b39] at h
    refine sx_iload_n (pc2 := 40) hX 1 d_Po_clear_39 rfl rfl rfl ?_
    refine sx_bipush (v := 7) (pc2 := 42) hX d_Po_clear_40 (by decide) rfl ?_
    refine sx_icmp_ge (tgt := 66) (pc2 := 45) hX d_Po_clear_42 (by decide) rfl (fun hc1 => ?_) (fun hc1 => ?_)
    · replace h := sx_t h hc1
      exact sx_vret hX hE h d_Po_clear_66
    · replace h := sx_f h hc1
      refine sx_aload_n (pc2 := 46) hX 0 d_Po_clear_45 rfl rfl rfl ?_
      refine fg_Po_15 (pc2 := 49) hX (hK 27 n p hn hp) d_Po_clear_46 rfl ?_
      refine sx_iload_n (pc2 := 50) hX 1 d_Po_clear_49 rfl rfl rfl ?_
      refine sx_bipush (v := (-2)) (pc2 := 52) hX d_Po_clear_50 (by decide) rfl ?_
      obtain ⟨hc2, h⟩ := h
      refine sx_iast (pc2 := 53) hX (hK 29 n p hn hp) (fun _ => rfl) hc2 d_Po_clear_52 rfl ?_
      refine sx_nm (fun σ3 e3 => ?_)
      replace h := h σ3 e3
      refine sx_aload_n (pc2 := 54) hX 0 d_Po_clear_53 rfl rfl rfl ?_
      refine fg_Po_18 (pc2 := 57) hX (hK 27 n p hn hp) d_Po_clear_54 rfl ?_
      refine sx_iload_n (pc2 := 58) hX 1 d_Po_clear_57 rfl rfl rfl ?_
      refine sx_iconst (v := 0) (pc2 := 59) hX d_Po_clear_58 (by decide) rfl ?_
      obtain ⟨hc4, h⟩ := h
      refine sx_iast (pc2 := 60) hX (hK 30 n p hn hp) (fun _ => rfl) hc4 d_Po_clear_59 rfl ?_
      refine sx_nm (fun σ5 e5 => ?_)
      replace h := h σ5 e5
      refine sx_iinc (pc2 := 63) hX 1 _ [(0, .ref (K.2.2.1 27 n p)), (2, .int (v2 + 1))] [1, 0] d_Po_clear_60 rfl (v2 + 1) rfl (by decide) rfl rfl rfl ?_
      refine sx_goto (tgt := 39) hX d_Po_clear_63 (by decide) ?_
      exact ih (v2 + 1) _ _ h
set_option maxRecDepth 100000 in
set_option maxHeartbeats 4000000 in
theorem c_Po_clear {l : Launch} {K : sx_K} (hK : kx_C K) (n : Nat) (p : Nat) (x1 : Int32) (σ : sx_M) (τ : sx_L) (Q : sx_M → Prop) (hn : n < 25) (hp : p < 7) (h : wp_Po_clear n p x1 σ Q) : Met l y_Po_clear (sx_wd y_Po_clear prog_7_method_2_code 3 none) rm_Po_clear (sx_Pc K [.ref (K.2.2.1 27 n p), .int x1] σ τ) (sx_Qv K (fun σ _ => Q σ)) 0 0 (sx_A K) := by
  refine sx_met (by decide) (Nat.le_of_ble_eq_true rfl) (fun X hX hE => ?_)
  replace hX : sx_C X K prog_7_method_2_code 3 "SensorTree$Post" none rm_Po_clear l := hX
  show sx_G X K 3 0 [(0, .ref (K.2.2.1 27 n p)), (1, .int x1)] [] (sx_H K σ τ)
  unfold wp_Po_clear at h
  refine sx_aload_n (pc2 := 1) hX 0 d_Po_clear_0 rfl rfl rfl ?_
  refine sx_iconst (v := 1) (pc2 := 2) hX d_Po_clear_1 (by decide) rfl ?_
  refine fp_Po_21 (pc2 := 5) hX (by decide) (hK 27 n p hn hp) d_Po_clear_2 rfl ?_
  refine sx_nm (fun σ6 e6 => ?_)
  replace h := h σ6 e6
  refine sx_aload_n (pc2 := 6) hX 0 d_Po_clear_5 rfl rfl rfl ?_
  refine sx_iconst (v := 0) (pc2 := 7) hX d_Po_clear_6 (by decide) rfl ?_
  refine fp_Po_25 (pc2 := 10) hX (hK 27 n p hn hp) d_Po_clear_7 rfl ?_
  refine sx_nm (fun σ7 e7 => ?_)
  replace h := h σ7 e7
  refine sx_aload_n (pc2 := 11) hX 0 d_Po_clear_10 rfl rfl rfl ?_
  refine sx_iload_n (pc2 := 12) hX 1 d_Po_clear_11 rfl rfl rfl ?_
  refine fp_Po_29 (pc2 := 15) hX (hK 27 n p hn hp) d_Po_clear_12 rfl ?_
  refine sx_nm (fun σ8 e8 => ?_)
  replace h := h σ8 e8
  refine sx_aload_n (pc2 := 16) hX 0 d_Po_clear_15 rfl rfl rfl ?_
  refine sx_bipush (v := (-2)) (pc2 := 18) hX d_Po_clear_16 (by decide) rfl ?_
  refine fp_Po_32 (pc2 := 21) hX (hK 27 n p hn hp) d_Po_clear_18 rfl ?_
  refine sx_nm (fun σ9 e9 => ?_)
  replace h := h σ9 e9
  refine sx_aload_n (pc2 := 22) hX 0 d_Po_clear_21 rfl rfl rfl ?_
  refine sx_sipush (v := 9999) (pc2 := 25) hX d_Po_clear_22 (by decide) rfl ?_
  refine fp_Po_35 (pc2 := 28) hX (hK 27 n p hn hp) d_Po_clear_25 rfl ?_
  refine sx_nm (fun σ10 e10 => ?_)
  replace h := h σ10 e10
  refine sx_aload_n (pc2 := 29) hX 0 d_Po_clear_28 rfl rfl rfl ?_
  refine sx_iconst (v := 0) (pc2 := 30) hX d_Po_clear_29 (by decide) rfl ?_
  refine fp_Po_38 (pc2 := 33) hX (hK 27 n p hn hp) d_Po_clear_30 rfl ?_
  refine sx_nm (fun σ11 e11 => ?_)
  replace h := h σ11 e11
  refine sx_aload_n (pc2 := 34) hX 0 d_Po_clear_33 rfl rfl rfl ?_
  refine cl_Po_41 (pc2 := 37) hX hK h hn hp ⟨Nat.le_of_ble_eq_true rfl, Nat.le_of_ble_eq_true rfl⟩ (Nat.le_of_ble_eq_true rfl) d_Po_clear_34 rfl (fun σ12 τ12 h => ?_)
  refine sx_iconst (v := 0) (pc2 := 38) hX d_Po_clear_37 (by decide) rfl ?_
  refine sx_istore_n (pc2 := 39) hX _ [(0, .ref (K.2.2.1 27 n p)), (1, .int x1), (2, .int 0)] [1, 2, 0] d_Po_clear_38 rfl (by decide) rfl rfl rfl ?_
  refine sx_sub [(0, .ref (K.2.2.1 27 n p)), (2, .int 0)] [0, 2] rfl ?_
  obtain ⟨f39, h⟩ := h
  exact g_Po_clear_b39 hX hK hE hn hp  f39 0 _ _ h
theorem cl_En_90 {X : sx_T} {K : sx_K} {cc : ByteArray} {nL : Nat} {ret : Option FieldType} {rm : Room} {l : Launch} {pc pc2 : Nat} {lv : List (Nat × Value)} {st : List Value} {σ : sx_M} {τ : sx_L} {n : Nat} {p : Nat} {x1 : Int32} {Q : sx_M → Prop} (hX : sx_C X K cc nL "SensorTree$Engine" ret rm l) (hK : kx_C K) (h : wp_Po_clear n p x1 σ Q) (hn : n < 25) (hp : p < 7) (hR : rm_Po_clear.frames + 1 ≤ rm.frames ∧ 8 + (3 + 11) + rm_Po_clear.locals ≤ rm.locals) (hst : (st.map fun v => v.category).sum ≤ 8) (hd : decode cc pc = .ok (.invokevirtual 90, 3)) (hpc : pc + 3 = pc2) (kk : ∀ (σ2 : sx_M) (τ2 : sx_L), Q σ2 → sx_G X K nL pc2 lv (st) (sx_H K σ2 τ2)) : sx_G X K nL pc lv (.int x1 :: .ref (K.2.2.1 27 n p) :: st) (sx_H K σ τ) :=
  sx_callVv (Q := fun σ _ => Q σ) (As := [.int x1]) hX (c_Po_clear hK n p x1 σ τ Q hn hp h) (hK 27 n p hn hp) rfl rfl lk_33 lk_34 hy_Po_clear lk_31 lk_22 lk_32 ⟨rfl, rfl⟩ hR hst rfl hd hpc kk
def y_En_lot : MethodName := ⟨"SensorTree$Engine", "lot", "(II)I"⟩
theorem hy_En_lot : y_En_lot.cls ≠ "java/lang/invoke/MethodHandle" ∧ y_En_lot.cls ≠ "java/lang/invoke/VarHandle" ∧ (parseMethodDescriptor y_En_lot.desc).map (fun d => d.parameters.length) = some 2 := by decide +kernel
theorem d_En_lot_0 : decode prog_2_method_6_code 0 = .ok (.aload_n 0, 1) := by decide +kernel
theorem d_En_lot_1 : decode prog_2_method_6_code 1 = .ok (.getfield 32, 3) := by decide +kernel
theorem d_En_lot_4 : decode prog_2_method_6_code 4 = .ok (.getfield 93, 3) := by decide +kernel
theorem d_En_lot_7 : decode prog_2_method_6_code 7 = .ok (.bipush 8, 2) := by decide +kernel
theorem d_En_lot_9 : decode prog_2_method_6_code 9 = .ok (.iaload, 1) := by decide +kernel
theorem d_En_lot_10 : decode prog_2_method_6_code 10 = .ok (.aload_n 0, 1) := by decide +kernel
theorem d_En_lot_11 : decode prog_2_method_6_code 11 = .ok (.getfield 18, 3) := by decide +kernel
theorem d_En_lot_14 : decode prog_2_method_6_code 14 = .ok (.iadd, 1) := by decide +kernel
theorem d_En_lot_15 : decode prog_2_method_6_code 15 = .ok (.istore_n 3, 1) := by decide +kernel
theorem d_En_lot_16 : decode prog_2_method_6_code 16 = .ok (.iconst 0, 1) := by decide +kernel
theorem d_En_lot_17 : decode prog_2_method_6_code 17 = .ok (.istore 4, 2) := by decide +kernel
theorem d_En_lot_19 : decode prog_2_method_6_code 19 = .ok (.iload 4, 2) := by decide +kernel
theorem d_En_lot_21 : decode prog_2_method_6_code 21 = .ok (.iconst 2, 1) := by decide +kernel
theorem d_En_lot_22 : decode prog_2_method_6_code 22 = .ok (.if_icmp .ge 38, 3) := by decide +kernel
theorem d_En_lot_25 : decode prog_2_method_6_code 25 = .ok (.iload_n 3, 1) := by decide +kernel
theorem d_En_lot_26 : decode prog_2_method_6_code 26 = .ok (.iload 4, 2) := by decide +kernel
theorem d_En_lot_28 : decode prog_2_method_6_code 28 = .ok (.ifCond .ne 9, 3) := by decide +kernel
theorem d_En_lot_31 : decode prog_2_method_6_code 31 = .ok (.sipush 229, 3) := by decide +kernel
theorem d_En_lot_34 : decode prog_2_method_6_code 34 = .ok (.goto 4, 3) := by decide +kernel
theorem d_En_lot_37 : decode prog_2_method_6_code 37 = .ok (.iload_n 2, 1) := by decide +kernel
theorem d_En_lot_38 : decode prog_2_method_6_code 38 = .ok (.ixor, 1) := by decide +kernel
theorem d_En_lot_39 : decode prog_2_method_6_code 39 = .ok (.ldc 116, 2) := by decide +kernel
theorem d_En_lot_41 : decode prog_2_method_6_code 41 = .ok (.imul, 1) := by decide +kernel
theorem d_En_lot_42 : decode prog_2_method_6_code 42 = .ok (.sipush 12345, 3) := by decide +kernel
theorem d_En_lot_45 : decode prog_2_method_6_code 45 = .ok (.iadd, 1) := by decide +kernel
theorem d_En_lot_46 : decode prog_2_method_6_code 46 = .ok (.istore_n 3, 1) := by decide +kernel
theorem d_En_lot_47 : decode prog_2_method_6_code 47 = .ok (.iload_n 3, 1) := by decide +kernel
theorem d_En_lot_48 : decode prog_2_method_6_code 48 = .ok (.iload_n 3, 1) := by decide +kernel
theorem d_En_lot_49 : decode prog_2_method_6_code 49 = .ok (.bipush 15, 2) := by decide +kernel
theorem d_En_lot_51 : decode prog_2_method_6_code 51 = .ok (.iushr, 1) := by decide +kernel
theorem d_En_lot_52 : decode prog_2_method_6_code 52 = .ok (.ixor, 1) := by decide +kernel
theorem d_En_lot_53 : decode prog_2_method_6_code 53 = .ok (.istore_n 3, 1) := by decide +kernel
theorem d_En_lot_54 : decode prog_2_method_6_code 54 = .ok (.iinc 4 1, 3) := by decide +kernel
theorem d_En_lot_57 : decode prog_2_method_6_code 57 = .ok (.goto (-38), 3) := by decide +kernel
theorem d_En_lot_60 : decode prog_2_method_6_code 60 = .ok (.iload_n 1, 1) := by decide +kernel
theorem d_En_lot_61 : decode prog_2_method_6_code 61 = .ok (.ifCond .le 11, 3) := by decide +kernel
theorem d_En_lot_64 : decode prog_2_method_6_code 64 = .ok (.iload_n 3, 1) := by decide +kernel
theorem d_En_lot_65 : decode prog_2_method_6_code 65 = .ok (.iconst 1, 1) := by decide +kernel
theorem d_En_lot_66 : decode prog_2_method_6_code 66 = .ok (.iushr, 1) := by decide +kernel
theorem d_En_lot_67 : decode prog_2_method_6_code 67 = .ok (.iload_n 1, 1) := by decide +kernel
theorem d_En_lot_68 : decode prog_2_method_6_code 68 = .ok (.irem, 1) := by decide +kernel
theorem d_En_lot_69 : decode prog_2_method_6_code 69 = .ok (.goto 4, 3) := by decide +kernel
theorem d_En_lot_72 : decode prog_2_method_6_code 72 = .ok (.iconst 0, 1) := by decide +kernel
theorem d_En_lot_73 : decode prog_2_method_6_code 73 = .ok (.ireturn, 1) := by decide +kernel
def wp_En_lot_b73 (n : Nat)  (Q : Int32 → sx_M → Prop) (w0 : Int32) (σ : sx_M) : Prop := Q w0 σ
def wp_En_lot_b38 (n : Nat) (k19 : Int32 → Int32 → Int32 → Int32 → sx_M → Prop) (Q : Int32 → sx_M → Prop) (v1 : Int32) (v2 : Int32) (v4 : Int32) (w0 : Int32) (w1 : Int32) (σ : sx_M) : Prop := k19 v1 v2 ((((w0 ^^^ w1) * 1103515245) + 12345) ^^^ (((((w0 ^^^ w1) * 1103515245) + 12345).toUInt32 >>> ((15 : Int32).toUInt32 &&& Int32.toUInt32 31)).toInt32)) (v4 + 1) σ
def wp_En_lot_b19 (n : Nat)  (Q : Int32 → sx_M → Prop) : Nat → Int32 → Int32 → Int32 → Int32 → sx_M → Prop
  | 0, _, _, _, _, _ => False
  | f + 1, v1, v2, v3, v4, σ => if 2 ≤ v4 then (if v1 ≤ 0 then (wp_En_lot_b73 n Q 0 σ) else (¬ v1 = 0 ∧ (wp_En_lot_b73 n Q (((v3.toUInt32 >>> ((1 : Int32).toUInt32 &&& Int32.toUInt32 31)).toInt32) - ((v3.toUInt32 >>> ((1 : Int32).toUInt32 &&& Int32.toUInt32 31)).toInt32) / v1 * v1) σ))) else (if v4 = 0 then (wp_En_lot_b38 n (wp_En_lot_b19 n Q f) Q v1 v2 v4 v3 229 σ) else (wp_En_lot_b38 n (wp_En_lot_b19 n Q f) Q v1 v2 v4 v3 v2 σ))
def wp_En_lot (n : Nat) (x1 : Int32) (x2 : Int32) (σ : sx_M) (Q : Int32 → sx_M → Prop) : Prop := vp_in 8 9 ∧ (∃ f19, wp_En_lot_b19 n Q f19 x1 x2 ((σ 14 0 0 (8 : Int32).toNatClampNeg) + (σ 31 n 0 3)) 0 σ)
abbrev rm_En_lot : Room := { frames := 0, cells := 0, slots := 0, locals := 0 }
set_option maxRecDepth 100000 in
set_option maxHeartbeats 4000000 in
theorem g_En_lot_b73 {l : Launch} {K : sx_K} {X : sx_T} {n : Nat}  {Q : Int32 → sx_M → Prop} (hX : sx_C X K prog_2_method_6_code 5 "SensorTree$Engine" (some .int) rm_En_lot l) (hK : kx_C K) (hE : sx_E X K (sx_Qi K (fun r σ _ => Q r σ))) (hn : n < 2) (w0 : Int32) (σ : sx_M) (τ : sx_L)  (h : wp_En_lot_b73 n Q  w0 σ) : sx_G X K 5 73 [] [.int w0] (sx_H K σ τ) := by
  unfold wp_En_lot_b73 at h
  exact sx_iret hX hE h d_En_lot_73
set_option maxRecDepth 100000 in
set_option maxHeartbeats 4000000 in
theorem g_En_lot_b38 {l : Launch} {K : sx_K} {X : sx_T} {n : Nat} {k19 : Int32 → Int32 → Int32 → Int32 → sx_M → Prop} {Q : Int32 → sx_M → Prop} (hX : sx_C X K prog_2_method_6_code 5 "SensorTree$Engine" (some .int) rm_En_lot l) (hK : kx_C K) (hE : sx_E X K (sx_Qi K (fun r σ _ => Q r σ))) (hn : n < 2) (hk19 : ∀ (v1 : Int32) (v2 : Int32) (v3 : Int32) (v4 : Int32) (σ : sx_M) (τ : sx_L) , k19 v1 v2 v3 v4 σ → sx_G X K 5 19 [(1, .int v1), (2, .int v2), (3, .int v3), (4, .int v4)] [] (sx_H K σ τ)) (v1 : Int32) (v2 : Int32) (v4 : Int32) (w0 : Int32) (w1 : Int32) (σ : sx_M) (τ : sx_L)  (h : wp_En_lot_b38 n k19 Q  v1 v2 v4 w0 w1 σ) : sx_G X K 5 38 [(1, .int v1), (2, .int v2), (4, .int v4)] [.int w1, .int w0] (sx_H K σ τ) := by
  unfold wp_En_lot_b38 at h
  refine sx_ixor (pc2 := 39) hX d_En_lot_38 rfl ?_
  refine sx_ldc (v := 1103515245) (pc2 := 41) hX lk_0 d_En_lot_39 rfl ?_
  refine sx_imul (pc2 := 42) hX d_En_lot_41 rfl ?_
  refine sx_sipush (v := 12345) (pc2 := 45) hX d_En_lot_42 (by decide) rfl ?_
  refine sx_iadd (pc2 := 46) hX d_En_lot_45 rfl ?_
  refine sx_istore_n (pc2 := 47) hX _ [(1, .int v1), (2, .int v2), (3, .int (((w0 ^^^ w1) * 1103515245) + 12345)), (4, .int v4)] [1, 2, 0, 3] d_En_lot_46 rfl (by decide) rfl rfl rfl ?_
  refine sx_iload_n (pc2 := 48) hX 2 d_En_lot_47 rfl rfl rfl ?_
  refine sx_iload_n (pc2 := 49) hX 2 d_En_lot_48 rfl rfl rfl ?_
  refine sx_bipush (v := 15) (pc2 := 51) hX d_En_lot_49 (by decide) rfl ?_
  refine sx_iushr (pc2 := 52) hX d_En_lot_51 rfl ?_
  refine sx_ixor (pc2 := 53) hX d_En_lot_52 rfl ?_
  refine sx_istore_n (pc2 := 54) hX _ [(1, .int v1), (2, .int v2), (3, .int ((((w0 ^^^ w1) * 1103515245) + 12345) ^^^ (((((w0 ^^^ w1) * 1103515245) + 12345).toUInt32 >>> ((15 : Int32).toUInt32 &&& Int32.toUInt32 31)).toInt32))), (4, .int v4)] [1, 2, 0, 3] d_En_lot_53 rfl (by decide) rfl rfl rfl ?_
  refine sx_iinc (pc2 := 57) hX 3 _ [(1, .int v1), (2, .int v2), (3, .int ((((w0 ^^^ w1) * 1103515245) + 12345) ^^^ (((((w0 ^^^ w1) * 1103515245) + 12345).toUInt32 >>> ((15 : Int32).toUInt32 &&& Int32.toUInt32 31)).toInt32))), (4, .int (v4 + 1))] [1, 2, 3, 0] d_En_lot_54 rfl (v4 + 1) rfl (by decide) rfl rfl rfl ?_
  refine sx_goto (tgt := 19) hX d_En_lot_57 (by decide) ?_
  exact hk19 v1 v2 ((((w0 ^^^ w1) * 1103515245) + 12345) ^^^ (((((w0 ^^^ w1) * 1103515245) + 12345).toUInt32 >>> ((15 : Int32).toUInt32 &&& Int32.toUInt32 31)).toInt32)) (v4 + 1) _ _ h
set_option maxRecDepth 100000 in
set_option maxHeartbeats 4000000 in
theorem g_En_lot_b19 {l : Launch} {K : sx_K} {X : sx_T} {n : Nat}  {Q : Int32 → sx_M → Prop} (hX : sx_C X K prog_2_method_6_code 5 "SensorTree$Engine" (some .int) rm_En_lot l) (hK : kx_C K) (hE : sx_E X K (sx_Qi K (fun r σ _ => Q r σ))) (hn : n < 2) : ∀ (f : Nat) (v1 : Int32) (v2 : Int32) (v3 : Int32) (v4 : Int32) (σ : sx_M) (τ : sx_L) , wp_En_lot_b19 n Q f v1 v2 v3 v4 σ → sx_G X K 5 19 [(1, .int v1), (2, .int v2), (3, .int v3), (4, .int v4)] [] (sx_H K σ τ) := by
  intro f
  induction f with
  | zero => intro v1 v2 v3 v4 σ τ h; exact (show False from h).elim
  | succ f ih =>
    intro v1 v2 v3 v4 σ τ h
    rw [wp_En_lot_b19] at h
    refine sx_iload (pc2 := 21) hX 3 d_En_lot_19 rfl rfl ?_
    refine sx_iconst (v := 2) (pc2 := 22) hX d_En_lot_21 (by decide) rfl ?_
    refine sx_icmp_ge (tgt := 60) (pc2 := 25) hX d_En_lot_22 (by decide) rfl (fun hc1 => ?_) (fun hc1 => ?_)
    · replace h := sx_t h hc1
      refine sx_iload_n (pc2 := 61) hX 0 d_En_lot_60 rfl rfl rfl ?_
      refine sx_if_le (tgt := 72) (pc2 := 64) hX d_En_lot_61 (by decide) rfl (fun hc2 => ?_) (fun hc2 => ?_)
      · replace h := sx_t h hc2
        refine sx_iconst (v := 0) (pc2 := 73) hX d_En_lot_72 (by decide) rfl ?_
        refine sx_sub [] [] rfl ?_
        exact g_En_lot_b73 hX hK hE hn  0 _ _ h
      · replace h := sx_f h hc2
        refine sx_iload_n (pc2 := 65) hX 2 d_En_lot_64 rfl rfl rfl ?_
        refine sx_iconst (v := 1) (pc2 := 66) hX d_En_lot_65 (by decide) rfl ?_
        refine sx_iushr (pc2 := 67) hX d_En_lot_66 rfl ?_
        refine sx_iload_n (pc2 := 68) hX 0 d_En_lot_67 rfl rfl rfl ?_
        obtain ⟨hc3, h⟩ := h
        refine sx_irem (pc2 := 69) hX d_En_lot_68 hc3 rfl ?_
        refine sx_goto (tgt := 73) hX d_En_lot_69 (by decide) ?_
        refine sx_sub [] [] rfl ?_
        exact g_En_lot_b73 hX hK hE hn  (((v3.toUInt32 >>> ((1 : Int32).toUInt32 &&& Int32.toUInt32 31)).toInt32) - ((v3.toUInt32 >>> ((1 : Int32).toUInt32 &&& Int32.toUInt32 31)).toInt32) / v1 * v1) _ _ h
    · replace h := sx_f h hc1
      refine sx_iload_n (pc2 := 26) hX 2 d_En_lot_25 rfl rfl rfl ?_
      refine sx_iload (pc2 := 28) hX 3 d_En_lot_26 rfl rfl ?_
      refine sx_if_ne (tgt := 37) (pc2 := 31) hX d_En_lot_28 (by decide) rfl (fun hc4 => ?_) (fun hc4 => ?_)
      · replace h := sx_f h hc4
        refine sx_iload_n (pc2 := 38) hX 1 d_En_lot_37 rfl rfl rfl ?_
        refine sx_sub [(1, .int v1), (2, .int v2), (4, .int v4)] [0, 1, 3] rfl ?_
        exact g_En_lot_b38 hX hK hE hn ih v1 v2 v4 v3 v2 _ _ h
      · replace h := sx_t h hc4
        refine sx_sipush (v := 229) (pc2 := 34) hX d_En_lot_31 (by decide) rfl ?_
        refine sx_goto (tgt := 38) hX d_En_lot_34 (by decide) ?_
        refine sx_sub [(1, .int v1), (2, .int v2), (4, .int v4)] [0, 1, 3] rfl ?_
        exact g_En_lot_b38 hX hK hE hn ih v1 v2 v4 v3 229 _ _ h
set_option maxRecDepth 100000 in
set_option maxHeartbeats 4000000 in
theorem c_En_lot {l : Launch} {K : sx_K} (hK : kx_C K) (n : Nat) (x1 : Int32) (x2 : Int32) (σ : sx_M) (τ : sx_L) (Q : Int32 → sx_M → Prop) (hn : n < 2) (h : wp_En_lot n x1 x2 σ Q) : Met l y_En_lot (sx_wd y_En_lot prog_2_method_6_code 5 (some .int)) rm_En_lot (sx_Pc K [.ref (K.2.2.1 31 n 0), .int x1, .int x2] σ τ) (sx_Qi K (fun r σ _ => Q r σ)) 0 0 (sx_A K) := by
  refine sx_met (by decide) (Nat.le_of_ble_eq_true rfl) (fun X hX hE => ?_)
  replace hX : sx_C X K prog_2_method_6_code 5 "SensorTree$Engine" (some .int) rm_En_lot l := hX
  show sx_G X K 5 0 [(0, .ref (K.2.2.1 31 n 0)), (1, .int x1), (2, .int x2)] [] (sx_H K σ τ)
  unfold wp_En_lot at h
  refine sx_aload_n (pc2 := 1) hX 0 d_En_lot_0 rfl rfl rfl ?_
  refine fg_En_32 (pc2 := 4) hX (hK 31 n 0 hn (by decide)) d_En_lot_1 rfl ?_
  refine fg_En_93 (pc2 := 7) hX (hK 8 0 0 (by decide) (by decide)) d_En_lot_4 rfl ?_
  refine sx_bipush (v := 8) (pc2 := 9) hX d_En_lot_7 (by decide) rfl ?_
  obtain ⟨hc5, h⟩ := h
  refine sx_iald (pc2 := 10) hX (hK 14 0 0 (by decide) (by decide)) rfl hc5 d_En_lot_9 rfl ?_
  refine sx_aload_n (pc2 := 11) hX 0 d_En_lot_10 rfl rfl rfl ?_
  refine fg_En_18 (pc2 := 14) hX (hK 31 n 0 hn (by decide)) d_En_lot_11 rfl ?_
  refine sx_iadd (pc2 := 15) hX d_En_lot_14 rfl ?_
  refine sx_istore_n (pc2 := 16) hX _ [(0, .ref (K.2.2.1 31 n 0)), (1, .int x1), (2, .int x2), (3, .int ((σ 14 0 0 (8 : Int32).toNatClampNeg) + (σ 31 n 0 3)))] [1, 2, 3, 0] d_En_lot_15 rfl (by decide) rfl rfl rfl ?_
  refine sx_iconst (v := 0) (pc2 := 17) hX d_En_lot_16 (by decide) rfl ?_
  refine sx_istore (pc2 := 19) hX _ [(0, .ref (K.2.2.1 31 n 0)), (1, .int x1), (2, .int x2), (3, .int ((σ 14 0 0 (8 : Int32).toNatClampNeg) + (σ 31 n 0 3))), (4, .int 0)] [1, 2, 3, 4, 0] d_En_lot_17 (by decide) rfl rfl rfl ?_
  refine sx_sub [(1, .int x1), (2, .int x2), (3, .int ((σ 14 0 0 (8 : Int32).toNatClampNeg) + (σ 31 n 0 3))), (4, .int 0)] [1, 2, 3, 4] rfl ?_
  obtain ⟨f19, h⟩ := h
  exact g_En_lot_b19 hX hK hE hn  f19 x1 x2 ((σ 14 0 0 (8 : Int32).toNatClampNeg) + (σ 31 n 0 3)) 0 _ _ h
theorem cl_En_109 {X : sx_T} {K : sx_K} {cc : ByteArray} {nL : Nat} {ret : Option FieldType} {rm : Room} {l : Launch} {pc pc2 : Nat} {lv : List (Nat × Value)} {st : List Value} {σ : sx_M} {τ : sx_L} {n : Nat} {x1 : Int32} {x2 : Int32} {Q : Int32 → sx_M → Prop} (hX : sx_C X K cc nL "SensorTree$Engine" ret rm l) (hK : kx_C K) (h : wp_En_lot n x1 x2 σ Q) (hn : n < 2) (hR : rm_En_lot.frames + 1 ≤ rm.frames ∧ 8 + (5 + 11) + rm_En_lot.locals ≤ rm.locals) (hst : (st.map fun v => v.category).sum ≤ 8) (hd : decode cc pc = .ok (.invokevirtual 109, 3)) (hpc : pc + 3 = pc2) (kk : ∀ (r : Int32) (σ2 : sx_M) (τ2 : sx_L), Q r σ2 → sx_G X K nL pc2 lv (.int r :: st) (sx_H K σ2 τ2)) : sx_G X K nL pc lv (.int x2 :: .int x1 :: .ref (K.2.2.1 31 n 0) :: st) (sx_H K σ τ) :=
  sx_callVi (Q := fun r σ _ => Q r σ) (As := [.int x1, .int x2]) hX (c_En_lot hK n x1 x2 σ τ Q hn h) (hK 31 n 0 hn (by decide)) rfl rfl lk_30 ls_1 hy_En_lot lk_28 lk_27 lk_29 ⟨rfl, rfl⟩ hR hst rfl hd hpc kk
def y_En_setTimer : MethodName := ⟨"SensorTree$Engine", "setTimer", "(II)V"⟩
theorem hy_En_setTimer : y_En_setTimer.cls ≠ "java/lang/invoke/MethodHandle" ∧ y_En_setTimer.cls ≠ "java/lang/invoke/VarHandle" ∧ (parseMethodDescriptor y_En_setTimer.desc).map (fun d => d.parameters.length) = some 2 := by decide +kernel
theorem d_En_setTimer_0 : decode prog_2_method_5_code 0 = .ok (.aload_n 0, 1) := by decide +kernel
theorem d_En_setTimer_1 : decode prog_2_method_5_code 1 = .ok (.getfield 22, 3) := by decide +kernel
theorem d_En_setTimer_4 : decode prog_2_method_5_code 4 = .ok (.getfield 78, 3) := by decide +kernel
theorem d_En_setTimer_7 : decode prog_2_method_5_code 7 = .ok (.iload_n 1, 1) := by decide +kernel
theorem d_En_setTimer_8 : decode prog_2_method_5_code 8 = .ok (.aaload, 1) := by decide +kernel
theorem d_En_setTimer_9 : decode prog_2_method_5_code 9 = .ok (.astore_n 3, 1) := by decide +kernel
theorem d_En_setTimer_10 : decode prog_2_method_5_code 10 = .ok (.iload_n 2, 1) := by decide +kernel
theorem d_En_setTimer_11 : decode prog_2_method_5_code 11 = .ok (.iconst 2, 1) := by decide +kernel
theorem d_En_setTimer_12 : decode prog_2_method_5_code 12 = .ok (.idiv, 1) := by decide +kernel
theorem d_En_setTimer_13 : decode prog_2_method_5_code 13 = .ok (.istore 4, 2) := by decide +kernel
theorem d_En_setTimer_15 : decode prog_2_method_5_code 15 = .ok (.aload_n 3, 1) := by decide +kernel
theorem d_En_setTimer_16 : decode prog_2_method_5_code 16 = .ok (.iload_n 2, 1) := by decide +kernel
theorem d_En_setTimer_17 : decode prog_2_method_5_code 17 = .ok (.putfield 100, 3) := by decide +kernel
theorem d_En_setTimer_20 : decode prog_2_method_5_code 20 = .ok (.aload_n 3, 1) := by decide +kernel
theorem d_En_setTimer_21 : decode prog_2_method_5_code 21 = .ok (.iconst 0, 1) := by decide +kernel
theorem d_En_setTimer_22 : decode prog_2_method_5_code 22 = .ok (.putfield 103, 3) := by decide +kernel
theorem d_En_setTimer_25 : decode prog_2_method_5_code 25 = .ok (.aload_n 3, 1) := by decide +kernel
theorem d_En_setTimer_26 : decode prog_2_method_5_code 26 = .ok (.iconst 0, 1) := by decide +kernel
theorem d_En_setTimer_27 : decode prog_2_method_5_code 27 = .ok (.putfield 106, 3) := by decide +kernel
theorem d_En_setTimer_30 : decode prog_2_method_5_code 30 = .ok (.aload_n 3, 1) := by decide +kernel
theorem d_En_setTimer_31 : decode prog_2_method_5_code 31 = .ok (.iload 4, 2) := by decide +kernel
theorem d_En_setTimer_33 : decode prog_2_method_5_code 33 = .ok (.aload_n 0, 1) := by decide +kernel
theorem d_En_setTimer_34 : decode prog_2_method_5_code 34 = .ok (.iload 4, 2) := by decide +kernel
theorem d_En_setTimer_36 : decode prog_2_method_5_code 36 = .ok (.bipush 8, 2) := by decide +kernel
theorem d_En_setTimer_38 : decode prog_2_method_5_code 38 = .ok (.aload_n 0, 1) := by decide +kernel
theorem d_En_setTimer_39 : decode prog_2_method_5_code 39 = .ok (.getfield 22, 3) := by decide +kernel
theorem d_En_setTimer_42 : decode prog_2_method_5_code 42 = .ok (.getfield 33, 3) := by decide +kernel
theorem d_En_setTimer_45 : decode prog_2_method_5_code 45 = .ok (.imul, 1) := by decide +kernel
theorem d_En_setTimer_46 : decode prog_2_method_5_code 46 = .ok (.iload_n 1, 1) := by decide +kernel
theorem d_En_setTimer_47 : decode prog_2_method_5_code 47 = .ok (.iadd, 1) := by decide +kernel
theorem d_En_setTimer_48 : decode prog_2_method_5_code 48 = .ok (.invokevirtual 109, 3) := by decide +kernel
theorem d_En_setTimer_51 : decode prog_2_method_5_code 51 = .ok (.iadd, 1) := by decide +kernel
theorem d_En_setTimer_52 : decode prog_2_method_5_code 52 = .ok (.putfield 113, 3) := by decide +kernel
theorem d_En_setTimer_55 : decode prog_2_method_5_code 55 = .ok (.return_, 1) := by decide +kernel
def wp_En_setTimer (n : Nat) (x1 : Int32) (x2 : Int32) (σ : sx_M) (Q : sx_M → Prop) : Prop := vp_in x1 7 ∧ (∀ σ2 : sx_M, σ2 = sx_u σ 27 n x1.toNatClampNeg 7 x2 → (∀ σ3 : sx_M, σ3 = sx_u σ2 27 n x1.toNatClampNeg 8 0 → (∀ σ4 : sx_M, σ4 = sx_u σ3 27 n x1.toNatClampNeg 9 0 → (wp_En_lot n (x2 / 2) ((8 * (σ4 16 n 0 1)) + x1) σ4 (fun r5 σ5 => ∀ σ6 : sx_M, σ6 = sx_u σ5 27 n x1.toNatClampNeg 10 ((x2 / 2) + r5) → (Q σ6))))))
abbrev rm_En_setTimer : Room := { frames := 1, cells := 0, slots := 0, locals := 24 }
set_option maxRecDepth 100000 in
set_option maxHeartbeats 4000000 in
theorem c_En_setTimer {l : Launch} {K : sx_K} (hK : kx_C K) (n : Nat) (x1 : Int32) (x2 : Int32) (σ : sx_M) (τ : sx_L) (Q : sx_M → Prop) (hn : n < 2) (h : wp_En_setTimer n x1 x2 σ Q) : Met l y_En_setTimer (sx_wd y_En_setTimer prog_2_method_5_code 5 none) rm_En_setTimer (sx_Pc K [.ref (K.2.2.1 31 n 0), .int x1, .int x2] σ τ) (sx_Qv K (fun σ _ => Q σ)) 0 0 (sx_A K) := by
  refine sx_met (by decide) (Nat.le_of_ble_eq_true rfl) (fun X hX hE => ?_)
  replace hX : sx_C X K prog_2_method_5_code 5 "SensorTree$Engine" none rm_En_setTimer l := hX
  show sx_G X K 5 0 [(0, .ref (K.2.2.1 31 n 0)), (1, .int x1), (2, .int x2)] [] (sx_H K σ τ)
  unfold wp_En_setTimer at h
  refine sx_aload_n (pc2 := 1) hX 0 d_En_setTimer_0 rfl rfl rfl ?_
  refine fg_En_22 (pc2 := 4) hX (hK 31 n 0 hn (by decide)) d_En_setTimer_1 rfl ?_
  refine fg_En_78 (pc2 := 7) hX (hK 16 n 0 (sx_w2 hn) (by decide)) d_En_setTimer_4 rfl ?_
  refine sx_iload_n (pc2 := 8) hX 1 d_En_setTimer_7 rfl rfl rfl ?_
  obtain ⟨hc1, h⟩ := h
  refine sx_aald (a := K.2.2.1 27 n x1.toNatClampNeg) (pc2 := 9) hX (hK 17 n 0 (sx_w2 hn) (by decide)) 4 rfl rfl rfl hc1 d_En_setTimer_8 rfl ?_
  refine sx_astore_n (pc2 := 10) hX _ [(0, .ref (K.2.2.1 31 n 0)), (1, .int x1), (2, .int x2), (3, .ref (K.2.2.1 27 n x1.toNatClampNeg))] [1, 2, 3, 0] d_En_setTimer_9 rfl (by decide) rfl rfl rfl ?_
  refine sx_iload_n (pc2 := 11) hX 2 d_En_setTimer_10 rfl rfl rfl ?_
  refine sx_iconst (v := 2) (pc2 := 12) hX d_En_setTimer_11 (by decide) rfl ?_
  refine sx_idiv (pc2 := 13) hX d_En_setTimer_12 (by decide) rfl ?_
  refine sx_istore (pc2 := 15) hX _ [(0, .ref (K.2.2.1 31 n 0)), (1, .int x1), (2, .int x2), (3, .ref (K.2.2.1 27 n x1.toNatClampNeg)), (4, .int (x2 / 2))] [1, 2, 3, 4, 0] d_En_setTimer_13 (by decide) rfl rfl rfl ?_
  refine sx_aload_n (pc2 := 16) hX 3 d_En_setTimer_15 rfl rfl rfl ?_
  refine sx_iload_n (pc2 := 17) hX 2 d_En_setTimer_16 rfl rfl rfl ?_
  refine fp_En_100 (pc2 := 20) hX (hK 27 n x1.toNatClampNeg (sx_w2 hn) (sx_lt hc1)) d_En_setTimer_17 rfl ?_
  refine sx_nm (fun σ2 e2 => ?_)
  replace h := h σ2 e2
  refine sx_aload_n (pc2 := 21) hX 3 d_En_setTimer_20 rfl rfl rfl ?_
  refine sx_iconst (v := 0) (pc2 := 22) hX d_En_setTimer_21 (by decide) rfl ?_
  refine fp_En_103 (pc2 := 25) hX (hK 27 n x1.toNatClampNeg (sx_w2 hn) (sx_lt hc1)) d_En_setTimer_22 rfl ?_
  refine sx_nm (fun σ3 e3 => ?_)
  replace h := h σ3 e3
  refine sx_aload_n (pc2 := 26) hX 3 d_En_setTimer_25 rfl rfl rfl ?_
  refine sx_iconst (v := 0) (pc2 := 27) hX d_En_setTimer_26 (by decide) rfl ?_
  refine fp_En_106 (pc2 := 30) hX (hK 27 n x1.toNatClampNeg (sx_w2 hn) (sx_lt hc1)) d_En_setTimer_27 rfl ?_
  refine sx_nm (fun σ4 e4 => ?_)
  replace h := h σ4 e4
  refine sx_aload_n (pc2 := 31) hX 3 d_En_setTimer_30 rfl rfl rfl ?_
  refine sx_iload (pc2 := 33) hX 4 d_En_setTimer_31 rfl rfl ?_
  refine sx_aload_n (pc2 := 34) hX 0 d_En_setTimer_33 rfl rfl rfl ?_
  refine sx_iload (pc2 := 36) hX 4 d_En_setTimer_34 rfl rfl ?_
  refine sx_bipush (v := 8) (pc2 := 38) hX d_En_setTimer_36 (by decide) rfl ?_
  refine sx_aload_n (pc2 := 39) hX 0 d_En_setTimer_38 rfl rfl rfl ?_
  refine fg_En_22 (pc2 := 42) hX (hK 31 n 0 hn (by decide)) d_En_setTimer_39 rfl ?_
  refine fg_En_33 (pc2 := 45) hX (hK 16 n 0 (sx_w2 hn) (by decide)) d_En_setTimer_42 rfl ?_
  refine sx_imul (pc2 := 46) hX d_En_setTimer_45 rfl ?_
  refine sx_iload_n (pc2 := 47) hX 1 d_En_setTimer_46 rfl rfl rfl ?_
  refine sx_iadd (pc2 := 48) hX d_En_setTimer_47 rfl ?_
  refine cl_En_109 (pc2 := 51) hX hK h hn ⟨Nat.le_of_ble_eq_true rfl, Nat.le_of_ble_eq_true rfl⟩ (Nat.le_of_ble_eq_true rfl) d_En_setTimer_48 rfl (fun r5 σ5 τ5 h => ?_)
  refine sx_iadd (pc2 := 52) hX d_En_setTimer_51 rfl ?_
  refine fp_En_113 (pc2 := 55) hX (hK 27 n x1.toNatClampNeg (sx_w2 hn) (sx_lt hc1)) d_En_setTimer_52 rfl ?_
  refine sx_nm (fun σ6 e6 => ?_)
  replace h := h σ6 e6
  exact sx_vret hX hE h d_En_setTimer_55
theorem cl_En_96 {X : sx_T} {K : sx_K} {cc : ByteArray} {nL : Nat} {ret : Option FieldType} {rm : Room} {l : Launch} {pc pc2 : Nat} {lv : List (Nat × Value)} {st : List Value} {σ : sx_M} {τ : sx_L} {n : Nat} {x1 : Int32} {x2 : Int32} {Q : sx_M → Prop} (hX : sx_C X K cc nL "SensorTree$Engine" ret rm l) (hK : kx_C K) (h : wp_En_setTimer n x1 x2 σ Q) (hn : n < 2) (hR : rm_En_setTimer.frames + 1 ≤ rm.frames ∧ 8 + (5 + 11) + rm_En_setTimer.locals ≤ rm.locals) (hst : (st.map fun v => v.category).sum ≤ 8) (hd : decode cc pc = .ok (.invokevirtual 96, 3)) (hpc : pc + 3 = pc2) (kk : ∀ (σ2 : sx_M) (τ2 : sx_L), Q σ2 → sx_G X K nL pc2 lv (st) (sx_H K σ2 τ2)) : sx_G X K nL pc lv (.int x2 :: .int x1 :: .ref (K.2.2.1 31 n 0) :: st) (sx_H K σ τ) :=
  sx_callVv (Q := fun σ _ => Q σ) (As := [.int x1, .int x2]) hX (c_En_setTimer hK n x1 x2 σ τ Q hn h) (hK 31 n 0 hn (by decide)) rfl rfl lk_37 ls_0 hy_En_setTimer lk_35 lk_27 lk_36 ⟨rfl, rfl⟩ hR hst rfl hd hpc kk
def y_En_beginPost : MethodName := ⟨"SensorTree$Engine", "beginPost", "(I)V"⟩
theorem hy_En_beginPost : y_En_beginPost.cls ≠ "java/lang/invoke/MethodHandle" ∧ y_En_beginPost.cls ≠ "java/lang/invoke/VarHandle" ∧ (parseMethodDescriptor y_En_beginPost.desc).map (fun d => d.parameters.length) = some 1 := by decide +kernel
theorem d_En_beginPost_0 : decode prog_2_method_3_code 0 = .ok (.aload_n 0, 1) := by decide +kernel
theorem d_En_beginPost_1 : decode prog_2_method_3_code 1 = .ok (.getfield 22, 3) := by decide +kernel
theorem d_En_beginPost_4 : decode prog_2_method_3_code 4 = .ok (.getfield 78, 3) := by decide +kernel
theorem d_En_beginPost_7 : decode prog_2_method_3_code 7 = .ok (.iload_n 1, 1) := by decide +kernel
theorem d_En_beginPost_8 : decode prog_2_method_3_code 8 = .ok (.aaload, 1) := by decide +kernel
theorem d_En_beginPost_9 : decode prog_2_method_3_code 9 = .ok (.iload_n 1, 1) := by decide +kernel
theorem d_En_beginPost_10 : decode prog_2_method_3_code 10 = .ok (.ifCond .ne 8, 3) := by decide +kernel
theorem d_En_beginPost_13 : decode prog_2_method_3_code 13 = .ok (.bipush 10, 2) := by decide +kernel
theorem d_En_beginPost_15 : decode prog_2_method_3_code 15 = .ok (.goto 6, 3) := by decide +kernel
theorem d_En_beginPost_18 : decode prog_2_method_3_code 18 = .ok (.sipush 9999, 3) := by decide +kernel
theorem d_En_beginPost_21 : decode prog_2_method_3_code 21 = .ok (.invokevirtual 90, 3) := by decide +kernel
theorem d_En_beginPost_24 : decode prog_2_method_3_code 24 = .ok (.aload_n 0, 1) := by decide +kernel
theorem d_En_beginPost_25 : decode prog_2_method_3_code 25 = .ok (.iload_n 1, 1) := by decide +kernel
theorem d_En_beginPost_26 : decode prog_2_method_3_code 26 = .ok (.aload_n 0, 1) := by decide +kernel
theorem d_En_beginPost_27 : decode prog_2_method_3_code 27 = .ok (.getfield 32, 3) := by decide +kernel
theorem d_En_beginPost_30 : decode prog_2_method_3_code 30 = .ok (.getfield 93, 3) := by decide +kernel
theorem d_En_beginPost_33 : decode prog_2_method_3_code 33 = .ok (.iconst 0, 1) := by decide +kernel
theorem d_En_beginPost_34 : decode prog_2_method_3_code 34 = .ok (.iaload, 1) := by decide +kernel
theorem d_En_beginPost_35 : decode prog_2_method_3_code 35 = .ok (.invokevirtual 96, 3) := by decide +kernel
theorem d_En_beginPost_38 : decode prog_2_method_3_code 38 = .ok (.return_, 1) := by decide +kernel
def wp_En_beginPost_b21 (n : Nat)  (Q : sx_M → Prop) (v1 : Int32) (w0n : Nat) (w0p : Nat) (w1 : Int32) (σ : sx_M) : Prop := wp_Po_clear w0n w0p w1 σ (fun σ1 => vp_in 0 9 ∧ (wp_En_setTimer n v1 (σ1 14 0 0 (0 : Int32).toNatClampNeg) σ1 (fun σ3 => Q σ3)))
def wp_En_beginPost (n : Nat) (x1 : Int32) (σ : sx_M) (Q : sx_M → Prop) : Prop := vp_in x1 7 ∧ (if x1 = 0 then (wp_En_beginPost_b21 n Q x1 n x1.toNatClampNeg 10 σ) else (wp_En_beginPost_b21 n Q x1 n x1.toNatClampNeg 9999 σ))
abbrev rm_En_beginPost : Room := { frames := 2, cells := 0, slots := 0, locals := 48 }
set_option maxRecDepth 100000 in
set_option maxHeartbeats 4000000 in
theorem g_En_beginPost_b21 {l : Launch} {K : sx_K} {X : sx_T} {n : Nat}  {Q : sx_M → Prop} (hX : sx_C X K prog_2_method_3_code 2 "SensorTree$Engine" none rm_En_beginPost l) (hK : kx_C K) (hE : sx_E X K (sx_Qv K (fun σ _ => Q σ))) (hn : n < 2) (v1 : Int32) (w0n : Nat) (w0p : Nat) (w1 : Int32) (σ : sx_M) (τ : sx_L) (hw0n : w0n < 25) (hw0p : w0p < 7) (h : wp_En_beginPost_b21 n Q  v1 w0n w0p w1 σ) : sx_G X K 2 21 [(0, .ref (K.2.2.1 31 n 0)), (1, .int v1)] [.int w1, .ref (K.2.2.1 27 w0n w0p)] (sx_H K σ τ) := by
  unfold wp_En_beginPost_b21 at h
  refine cl_En_90 (pc2 := 24) hX hK h hw0n hw0p ⟨Nat.le_of_ble_eq_true rfl, Nat.le_of_ble_eq_true rfl⟩ (Nat.le_of_ble_eq_true rfl) d_En_beginPost_21 rfl (fun σ1 τ1 h => ?_)
  refine sx_aload_n (pc2 := 25) hX 0 d_En_beginPost_24 rfl rfl rfl ?_
  refine sx_iload_n (pc2 := 26) hX 1 d_En_beginPost_25 rfl rfl rfl ?_
  refine sx_aload_n (pc2 := 27) hX 0 d_En_beginPost_26 rfl rfl rfl ?_
  refine fg_En_32 (pc2 := 30) hX (hK 31 n 0 hn (by decide)) d_En_beginPost_27 rfl ?_
  refine fg_En_93 (pc2 := 33) hX (hK 8 0 0 (by decide) (by decide)) d_En_beginPost_30 rfl ?_
  refine sx_iconst (v := 0) (pc2 := 34) hX d_En_beginPost_33 (by decide) rfl ?_
  obtain ⟨hc2, h⟩ := h
  refine sx_iald (pc2 := 35) hX (hK 14 0 0 (by decide) (by decide)) rfl hc2 d_En_beginPost_34 rfl ?_
  refine cl_En_96 (pc2 := 38) hX hK h hn ⟨Nat.le_of_ble_eq_true rfl, Nat.le_of_ble_eq_true rfl⟩ (Nat.le_of_ble_eq_true rfl) d_En_beginPost_35 rfl (fun σ3 τ3 h => ?_)
  exact sx_vret hX hE h d_En_beginPost_38
set_option maxRecDepth 100000 in
set_option maxHeartbeats 4000000 in
theorem c_En_beginPost {l : Launch} {K : sx_K} (hK : kx_C K) (n : Nat) (x1 : Int32) (σ : sx_M) (τ : sx_L) (Q : sx_M → Prop) (hn : n < 2) (h : wp_En_beginPost n x1 σ Q) : Met l y_En_beginPost (sx_wd y_En_beginPost prog_2_method_3_code 2 none) rm_En_beginPost (sx_Pc K [.ref (K.2.2.1 31 n 0), .int x1] σ τ) (sx_Qv K (fun σ _ => Q σ)) 0 0 (sx_A K) := by
  refine sx_met (by decide) (Nat.le_of_ble_eq_true rfl) (fun X hX hE => ?_)
  replace hX : sx_C X K prog_2_method_3_code 2 "SensorTree$Engine" none rm_En_beginPost l := hX
  show sx_G X K 2 0 [(0, .ref (K.2.2.1 31 n 0)), (1, .int x1)] [] (sx_H K σ τ)
  unfold wp_En_beginPost at h
  refine sx_aload_n (pc2 := 1) hX 0 d_En_beginPost_0 rfl rfl rfl ?_
  refine fg_En_22 (pc2 := 4) hX (hK 31 n 0 hn (by decide)) d_En_beginPost_1 rfl ?_
  refine fg_En_78 (pc2 := 7) hX (hK 16 n 0 (sx_w2 hn) (by decide)) d_En_beginPost_4 rfl ?_
  refine sx_iload_n (pc2 := 8) hX 1 d_En_beginPost_7 rfl rfl rfl ?_
  obtain ⟨hc4, h⟩ := h
  refine sx_aald (a := K.2.2.1 27 n x1.toNatClampNeg) (pc2 := 9) hX (hK 17 n 0 (sx_w2 hn) (by decide)) 4 rfl rfl rfl hc4 d_En_beginPost_8 rfl ?_
  refine sx_iload_n (pc2 := 10) hX 1 d_En_beginPost_9 rfl rfl rfl ?_
  refine sx_if_ne (tgt := 18) (pc2 := 13) hX d_En_beginPost_10 (by decide) rfl (fun hc5 => ?_) (fun hc5 => ?_)
  · replace h := sx_f h hc5
    refine sx_sipush (v := 9999) (pc2 := 21) hX d_En_beginPost_18 (by decide) rfl ?_
    exact g_En_beginPost_b21 hX hK hE hn  x1 n x1.toNatClampNeg 9999 _ _ (sx_w2 hn) (sx_lt hc4) h
  · replace h := sx_t h hc5
    refine sx_bipush (v := 10) (pc2 := 15) hX d_En_beginPost_13 (by decide) rfl ?_
    refine sx_goto (tgt := 21) hX d_En_beginPost_15 (by decide) ?_
    exact g_En_beginPost_b21 hX hK hE hn  x1 n x1.toNatClampNeg 10 _ _ (sx_w2 hn) (sx_lt hc4) h
theorem cl_En_86 {X : sx_T} {K : sx_K} {cc : ByteArray} {nL : Nat} {ret : Option FieldType} {rm : Room} {l : Launch} {pc pc2 : Nat} {lv : List (Nat × Value)} {st : List Value} {σ : sx_M} {τ : sx_L} {n : Nat} {x1 : Int32} {Q : sx_M → Prop} (hX : sx_C X K cc nL "SensorTree$Engine" ret rm l) (hK : kx_C K) (h : wp_En_beginPost n x1 σ Q) (hn : n < 2) (hR : rm_En_beginPost.frames + 1 ≤ rm.frames ∧ 8 + (2 + 11) + rm_En_beginPost.locals ≤ rm.locals) (hst : (st.map fun v => v.category).sum ≤ 8) (hd : decode cc pc = .ok (.invokevirtual 86, 3)) (hpc : pc + 3 = pc2) (kk : ∀ (σ2 : sx_M) (τ2 : sx_L), Q σ2 → sx_G X K nL pc2 lv (st) (sx_H K σ2 τ2)) : sx_G X K nL pc lv (.int x1 :: .ref (K.2.2.1 31 n 0) :: st) (sx_H K σ τ) :=
  sx_callVv (Q := fun σ _ => Q σ) (As := [.int x1]) hX (c_En_beginPost hK n x1 σ τ Q hn h) (hK 31 n 0 hn (by decide)) rfl rfl lk_40 lk_41 hy_En_beginPost lk_38 lk_27 lk_39 ⟨rfl, rfl⟩ hR hst rfl hd hpc kk
theorem cl_St_157 {X : sx_T} {K : sx_K} {cc : ByteArray} {nL : Nat} {ret : Option FieldType} {rm : Room} {l : Launch} {pc pc2 : Nat} {lv : List (Nat × Value)} {st : List Value} {σ : sx_M} {τ : sx_L} {n : Nat} {x1 : Int32} {Q : sx_M → Prop} (hX : sx_C X K cc nL "SensorTree" ret rm l) (hK : kx_C K) (h : wp_En_beginPost n x1 σ Q) (hn : n < 2) (hR : rm_En_beginPost.frames + 1 ≤ rm.frames ∧ 8 + (2 + 11) + rm_En_beginPost.locals ≤ rm.locals) (hst : (st.map fun v => v.category).sum ≤ 8) (hd : decode cc pc = .ok (.invokevirtual 157, 3)) (hpc : pc + 3 = pc2) (kk : ∀ (σ2 : sx_M) (τ2 : sx_L), Q σ2 → sx_G X K nL pc2 lv (st) (sx_H K σ2 τ2)) : sx_G X K nL pc lv (.int x1 :: .ref (K.2.2.1 31 n 0) :: st) (sx_H K σ τ) :=
  sx_callVv (Q := fun σ _ => Q σ) (As := [.int x1]) hX (c_En_beginPost hK n x1 σ τ Q hn h) (hK 31 n 0 hn (by decide)) rfl rfl lk_40 lk_41 hy_En_beginPost lk_38 lk_27 lk_291 ⟨rfl, rfl⟩ hR hst rfl hd hpc kk
def y_En_beginAll : MethodName := ⟨"SensorTree$Engine", "beginAll", "()V"⟩
theorem hy_En_beginAll : y_En_beginAll.cls ≠ "java/lang/invoke/MethodHandle" ∧ y_En_beginAll.cls ≠ "java/lang/invoke/VarHandle" ∧ (parseMethodDescriptor y_En_beginAll.desc).map (fun d => d.parameters.length) = some 0 := by decide +kernel
theorem d_En_beginAll_0 : decode prog_2_method_2_code 0 = .ok (.aload_n 0, 1) := by decide +kernel
theorem d_En_beginAll_1 : decode prog_2_method_2_code 1 = .ok (.getfield 22, 3) := by decide +kernel
theorem d_En_beginAll_4 : decode prog_2_method_2_code 4 = .ok (.iconst 0, 1) := by decide +kernel
theorem d_En_beginAll_5 : decode prog_2_method_2_code 5 = .ok (.putfield 33, 3) := by decide +kernel
theorem d_En_beginAll_8 : decode prog_2_method_2_code 8 = .ok (.aload_n 0, 1) := by decide +kernel
theorem d_En_beginAll_9 : decode prog_2_method_2_code 9 = .ok (.getfield 22, 3) := by decide +kernel
theorem d_En_beginAll_12 : decode prog_2_method_2_code 12 = .ok (.iconst 0, 1) := by decide +kernel
theorem d_En_beginAll_13 : decode prog_2_method_2_code 13 = .ok (.putfield 36, 3) := by decide +kernel
theorem d_En_beginAll_16 : decode prog_2_method_2_code 16 = .ok (.aload_n 0, 1) := by decide +kernel
theorem d_En_beginAll_17 : decode prog_2_method_2_code 17 = .ok (.getfield 22, 3) := by decide +kernel
theorem d_En_beginAll_20 : decode prog_2_method_2_code 20 = .ok (.iconst 0, 1) := by decide +kernel
theorem d_En_beginAll_21 : decode prog_2_method_2_code 21 = .ok (.putfield 39, 3) := by decide +kernel
theorem d_En_beginAll_24 : decode prog_2_method_2_code 24 = .ok (.aload_n 0, 1) := by decide +kernel
theorem d_En_beginAll_25 : decode prog_2_method_2_code 25 = .ok (.getfield 22, 3) := by decide +kernel
theorem d_En_beginAll_28 : decode prog_2_method_2_code 28 = .ok (.iconst 0, 1) := by decide +kernel
theorem d_En_beginAll_29 : decode prog_2_method_2_code 29 = .ok (.putfield 42, 3) := by decide +kernel
theorem d_En_beginAll_32 : decode prog_2_method_2_code 32 = .ok (.aload_n 0, 1) := by decide +kernel
theorem d_En_beginAll_33 : decode prog_2_method_2_code 33 = .ok (.getfield 22, 3) := by decide +kernel
theorem d_En_beginAll_36 : decode prog_2_method_2_code 36 = .ok (.iconst 0, 1) := by decide +kernel
theorem d_En_beginAll_37 : decode prog_2_method_2_code 37 = .ok (.putfield 45, 3) := by decide +kernel
theorem d_En_beginAll_40 : decode prog_2_method_2_code 40 = .ok (.aload_n 0, 1) := by decide +kernel
theorem d_En_beginAll_41 : decode prog_2_method_2_code 41 = .ok (.getfield 22, 3) := by decide +kernel
theorem d_En_beginAll_44 : decode prog_2_method_2_code 44 = .ok (.iconst 0, 1) := by decide +kernel
theorem d_En_beginAll_45 : decode prog_2_method_2_code 45 = .ok (.putfield 48, 3) := by decide +kernel
theorem d_En_beginAll_48 : decode prog_2_method_2_code 48 = .ok (.aload_n 0, 1) := by decide +kernel
theorem d_En_beginAll_49 : decode prog_2_method_2_code 49 = .ok (.getfield 22, 3) := by decide +kernel
theorem d_En_beginAll_52 : decode prog_2_method_2_code 52 = .ok (.iconst 0, 1) := by decide +kernel
theorem d_En_beginAll_53 : decode prog_2_method_2_code 53 = .ok (.putfield 51, 3) := by decide +kernel
theorem d_En_beginAll_56 : decode prog_2_method_2_code 56 = .ok (.aload_n 0, 1) := by decide +kernel
theorem d_En_beginAll_57 : decode prog_2_method_2_code 57 = .ok (.getfield 22, 3) := by decide +kernel
theorem d_En_beginAll_60 : decode prog_2_method_2_code 60 = .ok (.getfield 54, 3) := by decide +kernel
theorem d_En_beginAll_63 : decode prog_2_method_2_code 63 = .ok (.iconst 0, 1) := by decide +kernel
theorem d_En_beginAll_64 : decode prog_2_method_2_code 64 = .ok (.putfield 57, 3) := by decide +kernel
theorem d_En_beginAll_67 : decode prog_2_method_2_code 67 = .ok (.iconst 0, 1) := by decide +kernel
theorem d_En_beginAll_68 : decode prog_2_method_2_code 68 = .ok (.istore_n 1, 1) := by decide +kernel
theorem d_En_beginAll_69 : decode prog_2_method_2_code 69 = .ok (.iload_n 1, 1) := by decide +kernel
theorem d_En_beginAll_70 : decode prog_2_method_2_code 70 = .ok (.aload_n 0, 1) := by decide +kernel
theorem d_En_beginAll_71 : decode prog_2_method_2_code 71 = .ok (.getfield 32, 3) := by decide +kernel
theorem d_En_beginAll_74 : decode prog_2_method_2_code 74 = .ok (.getfield 60, 3) := by decide +kernel
theorem d_En_beginAll_77 : decode prog_2_method_2_code 77 = .ok (.if_icmp .ge 37, 3) := by decide +kernel
theorem d_En_beginAll_80 : decode prog_2_method_2_code 80 = .ok (.aload_n 0, 1) := by decide +kernel
theorem d_En_beginAll_81 : decode prog_2_method_2_code 81 = .ok (.getfield 22, 3) := by decide +kernel
theorem d_En_beginAll_84 : decode prog_2_method_2_code 84 = .ok (.getfield 65, 3) := by decide +kernel
theorem d_En_beginAll_87 : decode prog_2_method_2_code 87 = .ok (.iload_n 1, 1) := by decide +kernel
theorem d_En_beginAll_88 : decode prog_2_method_2_code 88 = .ok (.iconst 1, 1) := by decide +kernel
theorem d_En_beginAll_89 : decode prog_2_method_2_code 89 = .ok (.iastore, 1) := by decide +kernel
theorem d_En_beginAll_90 : decode prog_2_method_2_code 90 = .ok (.aload_n 0, 1) := by decide +kernel
theorem d_En_beginAll_91 : decode prog_2_method_2_code 91 = .ok (.getfield 22, 3) := by decide +kernel
theorem d_En_beginAll_94 : decode prog_2_method_2_code 94 = .ok (.getfield 69, 3) := by decide +kernel
theorem d_En_beginAll_97 : decode prog_2_method_2_code 97 = .ok (.iload_n 1, 1) := by decide +kernel
theorem d_En_beginAll_98 : decode prog_2_method_2_code 98 = .ok (.aload_n 0, 1) := by decide +kernel
theorem d_En_beginAll_99 : decode prog_2_method_2_code 99 = .ok (.getfield 32, 3) := by decide +kernel
theorem d_En_beginAll_102 : decode prog_2_method_2_code 102 = .ok (.getfield 72, 3) := by decide +kernel
theorem d_En_beginAll_105 : decode prog_2_method_2_code 105 = .ok (.iload_n 1, 1) := by decide +kernel
theorem d_En_beginAll_106 : decode prog_2_method_2_code 106 = .ok (.iaload, 1) := by decide +kernel
theorem d_En_beginAll_107 : decode prog_2_method_2_code 107 = .ok (.iastore, 1) := by decide +kernel
theorem d_En_beginAll_108 : decode prog_2_method_2_code 108 = .ok (.iinc 1 1, 3) := by decide +kernel
theorem d_En_beginAll_111 : decode prog_2_method_2_code 111 = .ok (.goto (-42), 3) := by decide +kernel
theorem d_En_beginAll_114 : decode prog_2_method_2_code 114 = .ok (.iconst 0, 1) := by decide +kernel
theorem d_En_beginAll_115 : decode prog_2_method_2_code 115 = .ok (.istore_n 1, 1) := by decide +kernel
theorem d_En_beginAll_116 : decode prog_2_method_2_code 116 = .ok (.iload_n 1, 1) := by decide +kernel
theorem d_En_beginAll_117 : decode prog_2_method_2_code 117 = .ok (.aload_n 0, 1) := by decide +kernel
theorem d_En_beginAll_118 : decode prog_2_method_2_code 118 = .ok (.getfield 32, 3) := by decide +kernel
theorem d_En_beginAll_121 : decode prog_2_method_2_code 121 = .ok (.getfield 75, 3) := by decide +kernel
theorem d_En_beginAll_124 : decode prog_2_method_2_code 124 = .ok (.if_icmp .ge 27, 3) := by decide +kernel
theorem d_En_beginAll_127 : decode prog_2_method_2_code 127 = .ok (.aload_n 0, 1) := by decide +kernel
theorem d_En_beginAll_128 : decode prog_2_method_2_code 128 = .ok (.getfield 22, 3) := by decide +kernel
theorem d_En_beginAll_131 : decode prog_2_method_2_code 131 = .ok (.getfield 78, 3) := by decide +kernel
theorem d_En_beginAll_134 : decode prog_2_method_2_code 134 = .ok (.iload_n 1, 1) := by decide +kernel
theorem d_En_beginAll_135 : decode prog_2_method_2_code 135 = .ok (.aaload, 1) := by decide +kernel
theorem d_En_beginAll_136 : decode prog_2_method_2_code 136 = .ok (.iconst 0, 1) := by decide +kernel
theorem d_En_beginAll_137 : decode prog_2_method_2_code 137 = .ok (.putfield 81, 3) := by decide +kernel
theorem d_En_beginAll_140 : decode prog_2_method_2_code 140 = .ok (.aload_n 0, 1) := by decide +kernel
theorem d_En_beginAll_141 : decode prog_2_method_2_code 141 = .ok (.iload_n 1, 1) := by decide +kernel
theorem d_En_beginAll_142 : decode prog_2_method_2_code 142 = .ok (.invokevirtual 86, 3) := by decide +kernel
theorem d_En_beginAll_145 : decode prog_2_method_2_code 145 = .ok (.iinc 1 1, 3) := by decide +kernel
theorem d_En_beginAll_148 : decode prog_2_method_2_code 148 = .ok (.goto (-32), 3) := by decide +kernel
theorem d_En_beginAll_151 : decode prog_2_method_2_code 151 = .ok (.return_, 1) := by decide +kernel
def wp_En_beginAll_b116 (n : Nat)  (Q : sx_M → Prop) : Nat → Int32 → sx_M → Prop
  | 0, _, _ => False
  | f + 1, v1, σ => if σ 8 0 0 0 ≤ v1 then (Q σ) else (vp_in v1 7 ∧ (∀ σ3 : sx_M, σ3 = sx_u σ 27 n v1.toNatClampNeg 6 0 → (wp_En_beginPost n v1 σ3 (fun σ4 => wp_En_beginAll_b116 n Q f (v1 + 1) σ4))))
def wp_En_beginAll_b69 (n : Nat)  (Q : sx_M → Prop) : Nat → Int32 → sx_M → Prop
  | 0, _, _ => False
  | f + 1, v1, σ => if σ 8 0 0 1 ≤ v1 then (∃ f116, wp_En_beginAll_b116 n Q f116 0 σ) else (vp_in v1 16 ∧ (∀ σ7 : sx_M, σ7 = sx_u σ 18 n 0 v1.toNatClampNeg 1 → (vp_in v1 16 ∧ (vp_in v1 16 ∧ (∀ σ10 : sx_M, σ10 = sx_u σ7 19 n 0 v1.toNatClampNeg (σ7 11 0 0 v1.toNatClampNeg) → (wp_En_beginAll_b69 n Q f (v1 + 1) σ10))))))
def wp_En_beginAll (n : Nat) (σ : sx_M) (Q : sx_M → Prop) : Prop := ∀ σ11 : sx_M, σ11 = sx_u σ 16 n 0 1 0 → (∀ σ12 : sx_M, σ12 = sx_u σ11 16 n 0 2 0 → (∀ σ13 : sx_M, σ13 = sx_u σ12 16 n 0 3 0 → (∀ σ14 : sx_M, σ14 = sx_u σ13 16 n 0 4 0 → (∀ σ15 : sx_M, σ15 = sx_u σ14 16 n 0 5 0 → (∀ σ16 : sx_M, σ16 = sx_u σ15 16 n 0 6 0 → (∀ σ17 : sx_M, σ17 = sx_u σ16 16 n 0 7 0 → (∀ σ18 : sx_M, σ18 = sx_u σ17 20 n 0 0 0 → (∃ f69, wp_En_beginAll_b69 n Q f69 0 σ18))))))))
abbrev rm_En_beginAll : Room := { frames := 3, cells := 0, slots := 0, locals := 69 }
set_option maxRecDepth 100000 in
set_option maxHeartbeats 4000000 in
theorem g_En_beginAll_b116 {l : Launch} {K : sx_K} {X : sx_T} {n : Nat}  {Q : sx_M → Prop} (hX : sx_C X K prog_2_method_2_code 2 "SensorTree$Engine" none rm_En_beginAll l) (hK : kx_C K) (hE : sx_E X K (sx_Qv K (fun σ _ => Q σ))) (hn : n < 2) : ∀ (f : Nat) (v1 : Int32) (σ : sx_M) (τ : sx_L) , wp_En_beginAll_b116 n Q f v1 σ → sx_G X K 2 116 [(0, .ref (K.2.2.1 31 n 0)), (1, .int v1)] [] (sx_H K σ τ) := by
  intro f
  induction f with
  | zero => intro v1 σ τ h; exact (show False from h).elim
  | succ f ih =>
    intro v1 σ τ h
    rw [wp_En_beginAll_b116] at h
    refine sx_iload_n (pc2 := 117) hX 1 d_En_beginAll_116 rfl rfl rfl ?_
    refine sx_aload_n (pc2 := 118) hX 0 d_En_beginAll_117 rfl rfl rfl ?_
    refine fg_En_32 (pc2 := 121) hX (hK 31 n 0 hn (by decide)) d_En_beginAll_118 rfl ?_
    refine fg_En_75 (pc2 := 124) hX (hK 8 0 0 (by decide) (by decide)) d_En_beginAll_121 rfl ?_
    refine sx_icmp_ge (tgt := 151) (pc2 := 127) hX d_En_beginAll_124 (by decide) rfl (fun hc1 => ?_) (fun hc1 => ?_)
    · replace h := sx_t h hc1
      exact sx_vret hX hE h d_En_beginAll_151
    · replace h := sx_f h hc1
      refine sx_aload_n (pc2 := 128) hX 0 d_En_beginAll_127 rfl rfl rfl ?_
      refine fg_En_22 (pc2 := 131) hX (hK 31 n 0 hn (by decide)) d_En_beginAll_128 rfl ?_
      refine fg_En_78 (pc2 := 134) hX (hK 16 n 0 (sx_w2 hn) (by decide)) d_En_beginAll_131 rfl ?_
      refine sx_iload_n (pc2 := 135) hX 1 d_En_beginAll_134 rfl rfl rfl ?_
      obtain ⟨hc2, h⟩ := h
      refine sx_aald (a := K.2.2.1 27 n v1.toNatClampNeg) (pc2 := 136) hX (hK 17 n 0 (sx_w2 hn) (by decide)) 4 rfl rfl rfl hc2 d_En_beginAll_135 rfl ?_
      refine sx_iconst (v := 0) (pc2 := 137) hX d_En_beginAll_136 (by decide) rfl ?_
      refine fp_En_81 (pc2 := 140) hX (hK 27 n v1.toNatClampNeg (sx_w2 hn) (sx_lt hc2)) d_En_beginAll_137 rfl ?_
      refine sx_nm (fun σ3 e3 => ?_)
      replace h := h σ3 e3
      refine sx_aload_n (pc2 := 141) hX 0 d_En_beginAll_140 rfl rfl rfl ?_
      refine sx_iload_n (pc2 := 142) hX 1 d_En_beginAll_141 rfl rfl rfl ?_
      refine cl_En_86 (pc2 := 145) hX hK h hn ⟨Nat.le_of_ble_eq_true rfl, Nat.le_of_ble_eq_true rfl⟩ (Nat.le_of_ble_eq_true rfl) d_En_beginAll_142 rfl (fun σ4 τ4 h => ?_)
      refine sx_iinc (pc2 := 148) hX 1 _ [(0, .ref (K.2.2.1 31 n 0)), (1, .int (v1 + 1))] [1, 0] d_En_beginAll_145 rfl (v1 + 1) rfl (by decide) rfl rfl rfl ?_
      refine sx_goto (tgt := 116) hX d_En_beginAll_148 (by decide) ?_
      exact ih (v1 + 1) _ _ h
set_option maxRecDepth 100000 in
set_option maxHeartbeats 4000000 in
theorem g_En_beginAll_b69 {l : Launch} {K : sx_K} {X : sx_T} {n : Nat}  {Q : sx_M → Prop} (hX : sx_C X K prog_2_method_2_code 2 "SensorTree$Engine" none rm_En_beginAll l) (hK : kx_C K) (hE : sx_E X K (sx_Qv K (fun σ _ => Q σ))) (hn : n < 2) : ∀ (f : Nat) (v1 : Int32) (σ : sx_M) (τ : sx_L) , wp_En_beginAll_b69 n Q f v1 σ → sx_G X K 2 69 [(0, .ref (K.2.2.1 31 n 0)), (1, .int v1)] [] (sx_H K σ τ) := by
  intro f
  induction f with
  | zero => intro v1 σ τ h; exact (show False from h).elim
  | succ f ih =>
    intro v1 σ τ h
    rw [wp_En_beginAll_b69] at h
    refine sx_iload_n (pc2 := 70) hX 1 d_En_beginAll_69 rfl rfl rfl ?_
    refine sx_aload_n (pc2 := 71) hX 0 d_En_beginAll_70 rfl rfl rfl ?_
    refine fg_En_32 (pc2 := 74) hX (hK 31 n 0 hn (by decide)) d_En_beginAll_71 rfl ?_
    refine fg_En_60 (pc2 := 77) hX (hK 8 0 0 (by decide) (by decide)) d_En_beginAll_74 rfl ?_
    refine sx_icmp_ge (tgt := 114) (pc2 := 80) hX d_En_beginAll_77 (by decide) rfl (fun hc5 => ?_) (fun hc5 => ?_)
    · replace h := sx_t h hc5
      refine sx_iconst (v := 0) (pc2 := 115) hX d_En_beginAll_114 (by decide) rfl ?_
      refine sx_istore_n (pc2 := 116) hX _ [(0, .ref (K.2.2.1 31 n 0)), (1, .int 0)] [1, 0] d_En_beginAll_115 rfl (by decide) rfl rfl rfl ?_
      obtain ⟨f116, h⟩ := h
      exact g_En_beginAll_b116 hX hK hE hn  f116 0 _ _ h
    · replace h := sx_f h hc5
      refine sx_aload_n (pc2 := 81) hX 0 d_En_beginAll_80 rfl rfl rfl ?_
      refine fg_En_22 (pc2 := 84) hX (hK 31 n 0 hn (by decide)) d_En_beginAll_81 rfl ?_
      refine fg_En_65 (pc2 := 87) hX (hK 16 n 0 (sx_w2 hn) (by decide)) d_En_beginAll_84 rfl ?_
      refine sx_iload_n (pc2 := 88) hX 1 d_En_beginAll_87 rfl rfl rfl ?_
      refine sx_iconst (v := 1) (pc2 := 89) hX d_En_beginAll_88 (by decide) rfl ?_
      obtain ⟨hc6, h⟩ := h
      refine sx_iast (pc2 := 90) hX (hK 18 n 0 (sx_w2 hn) (by decide)) (fun _ => rfl) hc6 d_En_beginAll_89 rfl ?_
      refine sx_nm (fun σ7 e7 => ?_)
      replace h := h σ7 e7
      refine sx_aload_n (pc2 := 91) hX 0 d_En_beginAll_90 rfl rfl rfl ?_
      refine fg_En_22 (pc2 := 94) hX (hK 31 n 0 hn (by decide)) d_En_beginAll_91 rfl ?_
      refine fg_En_69 (pc2 := 97) hX (hK 16 n 0 (sx_w2 hn) (by decide)) d_En_beginAll_94 rfl ?_
      refine sx_iload_n (pc2 := 98) hX 1 d_En_beginAll_97 rfl rfl rfl ?_
      refine sx_aload_n (pc2 := 99) hX 0 d_En_beginAll_98 rfl rfl rfl ?_
      refine fg_En_32 (pc2 := 102) hX (hK 31 n 0 hn (by decide)) d_En_beginAll_99 rfl ?_
      refine fg_En_72 (pc2 := 105) hX (hK 8 0 0 (by decide) (by decide)) d_En_beginAll_102 rfl ?_
      refine sx_iload_n (pc2 := 106) hX 1 d_En_beginAll_105 rfl rfl rfl ?_
      obtain ⟨hc8, h⟩ := h
      refine sx_iald (pc2 := 107) hX (hK 11 0 0 (by decide) (by decide)) rfl hc8 d_En_beginAll_106 rfl ?_
      obtain ⟨hc9, h⟩ := h
      refine sx_iast (pc2 := 108) hX (hK 19 n 0 (sx_w2 hn) (by decide)) (fun _ => rfl) hc9 d_En_beginAll_107 rfl ?_
      refine sx_nm (fun σ10 e10 => ?_)
      replace h := h σ10 e10
      refine sx_iinc (pc2 := 111) hX 1 _ [(0, .ref (K.2.2.1 31 n 0)), (1, .int (v1 + 1))] [1, 0] d_En_beginAll_108 rfl (v1 + 1) rfl (by decide) rfl rfl rfl ?_
      refine sx_goto (tgt := 69) hX d_En_beginAll_111 (by decide) ?_
      exact ih (v1 + 1) _ _ h
set_option maxRecDepth 100000 in
set_option maxHeartbeats 4000000 in
theorem c_En_beginAll {l : Launch} {K : sx_K} (hK : kx_C K) (n : Nat) (σ : sx_M) (τ : sx_L) (Q : sx_M → Prop) (hn : n < 2) (h : wp_En_beginAll n σ Q) : Met l y_En_beginAll (sx_wd y_En_beginAll prog_2_method_2_code 2 none) rm_En_beginAll (sx_Pc K [.ref (K.2.2.1 31 n 0)] σ τ) (sx_Qv K (fun σ _ => Q σ)) 0 0 (sx_A K) := by
  refine sx_met (by decide) (Nat.le_of_ble_eq_true rfl) (fun X hX hE => ?_)
  replace hX : sx_C X K prog_2_method_2_code 2 "SensorTree$Engine" none rm_En_beginAll l := hX
  show sx_G X K 2 0 [(0, .ref (K.2.2.1 31 n 0))] [] (sx_H K σ τ)
  unfold wp_En_beginAll at h
  refine sx_aload_n (pc2 := 1) hX 0 d_En_beginAll_0 rfl rfl rfl ?_
  refine fg_En_22 (pc2 := 4) hX (hK 31 n 0 hn (by decide)) d_En_beginAll_1 rfl ?_
  refine sx_iconst (v := 0) (pc2 := 5) hX d_En_beginAll_4 (by decide) rfl ?_
  refine fp_En_33 (pc2 := 8) hX (hK 16 n 0 (sx_w2 hn) (by decide)) d_En_beginAll_5 rfl ?_
  refine sx_nm (fun σ11 e11 => ?_)
  replace h := h σ11 e11
  refine sx_aload_n (pc2 := 9) hX 0 d_En_beginAll_8 rfl rfl rfl ?_
  refine fg_En_22 (pc2 := 12) hX (hK 31 n 0 hn (by decide)) d_En_beginAll_9 rfl ?_
  refine sx_iconst (v := 0) (pc2 := 13) hX d_En_beginAll_12 (by decide) rfl ?_
  refine fp_En_36 (pc2 := 16) hX (hK 16 n 0 (sx_w2 hn) (by decide)) d_En_beginAll_13 rfl ?_
  refine sx_nm (fun σ12 e12 => ?_)
  replace h := h σ12 e12
  refine sx_aload_n (pc2 := 17) hX 0 d_En_beginAll_16 rfl rfl rfl ?_
  refine fg_En_22 (pc2 := 20) hX (hK 31 n 0 hn (by decide)) d_En_beginAll_17 rfl ?_
  refine sx_iconst (v := 0) (pc2 := 21) hX d_En_beginAll_20 (by decide) rfl ?_
  refine fp_En_39 (pc2 := 24) hX (hK 16 n 0 (sx_w2 hn) (by decide)) d_En_beginAll_21 rfl ?_
  refine sx_nm (fun σ13 e13 => ?_)
  replace h := h σ13 e13
  refine sx_aload_n (pc2 := 25) hX 0 d_En_beginAll_24 rfl rfl rfl ?_
  refine fg_En_22 (pc2 := 28) hX (hK 31 n 0 hn (by decide)) d_En_beginAll_25 rfl ?_
  refine sx_iconst (v := 0) (pc2 := 29) hX d_En_beginAll_28 (by decide) rfl ?_
  refine fp_En_42 (pc2 := 32) hX (hK 16 n 0 (sx_w2 hn) (by decide)) d_En_beginAll_29 rfl ?_
  refine sx_nm (fun σ14 e14 => ?_)
  replace h := h σ14 e14
  refine sx_aload_n (pc2 := 33) hX 0 d_En_beginAll_32 rfl rfl rfl ?_
  refine fg_En_22 (pc2 := 36) hX (hK 31 n 0 hn (by decide)) d_En_beginAll_33 rfl ?_
  refine sx_iconst (v := 0) (pc2 := 37) hX d_En_beginAll_36 (by decide) rfl ?_
  refine fp_En_45 (pc2 := 40) hX (hK 16 n 0 (sx_w2 hn) (by decide)) d_En_beginAll_37 rfl ?_
  refine sx_nm (fun σ15 e15 => ?_)
  replace h := h σ15 e15
  refine sx_aload_n (pc2 := 41) hX 0 d_En_beginAll_40 rfl rfl rfl ?_
  refine fg_En_22 (pc2 := 44) hX (hK 31 n 0 hn (by decide)) d_En_beginAll_41 rfl ?_
  refine sx_iconst (v := 0) (pc2 := 45) hX d_En_beginAll_44 (by decide) rfl ?_
  refine fp_En_48 (pc2 := 48) hX (hK 16 n 0 (sx_w2 hn) (by decide)) d_En_beginAll_45 rfl ?_
  refine sx_nm (fun σ16 e16 => ?_)
  replace h := h σ16 e16
  refine sx_aload_n (pc2 := 49) hX 0 d_En_beginAll_48 rfl rfl rfl ?_
  refine fg_En_22 (pc2 := 52) hX (hK 31 n 0 hn (by decide)) d_En_beginAll_49 rfl ?_
  refine sx_iconst (v := 0) (pc2 := 53) hX d_En_beginAll_52 (by decide) rfl ?_
  refine fp_En_51 (pc2 := 56) hX (hK 16 n 0 (sx_w2 hn) (by decide)) d_En_beginAll_53 rfl ?_
  refine sx_nm (fun σ17 e17 => ?_)
  replace h := h σ17 e17
  refine sx_aload_n (pc2 := 57) hX 0 d_En_beginAll_56 rfl rfl rfl ?_
  refine fg_En_22 (pc2 := 60) hX (hK 31 n 0 hn (by decide)) d_En_beginAll_57 rfl ?_
  refine fg_En_54 (pc2 := 63) hX (hK 16 n 0 (sx_w2 hn) (by decide)) d_En_beginAll_60 rfl ?_
  refine sx_iconst (v := 0) (pc2 := 64) hX d_En_beginAll_63 (by decide) rfl ?_
  refine fp_En_57 (pc2 := 67) hX (hK 20 n 0 (sx_w25 (sx_w2 hn)) (by decide)) d_En_beginAll_64 rfl ?_
  refine sx_nm (fun σ18 e18 => ?_)
  replace h := h σ18 e18
  refine sx_iconst (v := 0) (pc2 := 68) hX d_En_beginAll_67 (by decide) rfl ?_
  refine sx_istore_n (pc2 := 69) hX _ [(0, .ref (K.2.2.1 31 n 0)), (1, .int 0)] [1, 0] d_En_beginAll_68 rfl (by decide) rfl rfl rfl ?_
  obtain ⟨f69, h⟩ := h
  exact g_En_beginAll_b69 hX hK hE hn  f69 0 _ _ h
theorem cl_St_86 {X : sx_T} {K : sx_K} {cc : ByteArray} {nL : Nat} {ret : Option FieldType} {rm : Room} {l : Launch} {pc pc2 : Nat} {lv : List (Nat × Value)} {st : List Value} {σ : sx_M} {τ : sx_L} {n : Nat} {Q : sx_M → Prop} (hX : sx_C X K cc nL "SensorTree" ret rm l) (hK : kx_C K) (h : wp_En_beginAll n σ Q) (hn : n < 2) (hR : rm_En_beginAll.frames + 1 ≤ rm.frames ∧ 8 + (2 + 11) + rm_En_beginAll.locals ≤ rm.locals) (hst : (st.map fun v => v.category).sum ≤ 8) (hd : decode cc pc = .ok (.invokevirtual 86, 3)) (hpc : pc + 3 = pc2) (kk : ∀ (σ2 : sx_M) (τ2 : sx_L), Q σ2 → sx_G X K nL pc2 lv (st) (sx_H K σ2 τ2)) : sx_G X K nL pc lv (.ref (K.2.2.1 31 n 0) :: st) (sx_H K σ τ) :=
  sx_callVv (Q := fun σ _ => Q σ) (As := []) hX (c_En_beginAll hK n σ τ Q hn h) (hK 31 n 0 hn (by decide)) rfl rfl lk_258 lk_259 hy_En_beginAll lk_256 lk_27 lk_257 ⟨rfl, rfl⟩ hR hst rfl hd hpc kk
def y_En_beginAnew : MethodName := ⟨"SensorTree$Engine", "beginAnew", "(I)V"⟩
theorem hy_En_beginAnew : y_En_beginAnew.cls ≠ "java/lang/invoke/MethodHandle" ∧ y_En_beginAnew.cls ≠ "java/lang/invoke/VarHandle" ∧ (parseMethodDescriptor y_En_beginAnew.desc).map (fun d => d.parameters.length) = some 1 := by decide +kernel
theorem d_En_beginAnew_0 : decode prog_2_method_4_code 0 = .ok (.aload_n 0, 1) := by decide +kernel
theorem d_En_beginAnew_1 : decode prog_2_method_4_code 1 = .ok (.getfield 32, 3) := by decide +kernel
theorem d_En_beginAnew_4 : decode prog_2_method_4_code 4 = .ok (.getfield 93, 3) := by decide +kernel
theorem d_En_beginAnew_7 : decode prog_2_method_4_code 7 = .ok (.iconst 0, 1) := by decide +kernel
theorem d_En_beginAnew_8 : decode prog_2_method_4_code 8 = .ok (.iaload, 1) := by decide +kernel
theorem d_En_beginAnew_9 : decode prog_2_method_4_code 9 = .ok (.istore_n 2, 1) := by decide +kernel
theorem d_En_beginAnew_10 : decode prog_2_method_4_code 10 = .ok (.aload_n 0, 1) := by decide +kernel
theorem d_En_beginAnew_11 : decode prog_2_method_4_code 11 = .ok (.getfield 22, 3) := by decide +kernel
theorem d_En_beginAnew_14 : decode prog_2_method_4_code 14 = .ok (.getfield 78, 3) := by decide +kernel
theorem d_En_beginAnew_17 : decode prog_2_method_4_code 17 = .ok (.iload_n 1, 1) := by decide +kernel
theorem d_En_beginAnew_18 : decode prog_2_method_4_code 18 = .ok (.aaload, 1) := by decide +kernel
theorem d_En_beginAnew_19 : decode prog_2_method_4_code 19 = .ok (.getfield 100, 3) := by decide +kernel
theorem d_En_beginAnew_22 : decode prog_2_method_4_code 22 = .ok (.iload_n 2, 1) := by decide +kernel
theorem d_En_beginAnew_23 : decode prog_2_method_4_code 23 = .ok (.if_icmp .eq 9, 3) := by decide +kernel
theorem d_En_beginAnew_26 : decode prog_2_method_4_code 26 = .ok (.aload_n 0, 1) := by decide +kernel
theorem d_En_beginAnew_27 : decode prog_2_method_4_code 27 = .ok (.iload_n 1, 1) := by decide +kernel
theorem d_En_beginAnew_28 : decode prog_2_method_4_code 28 = .ok (.iload_n 2, 1) := by decide +kernel
theorem d_En_beginAnew_29 : decode prog_2_method_4_code 29 = .ok (.invokevirtual 96, 3) := by decide +kernel
theorem d_En_beginAnew_32 : decode prog_2_method_4_code 32 = .ok (.return_, 1) := by decide +kernel
def wp_En_beginAnew_b32 (n : Nat)  (Q : sx_M → Prop)  (σ : sx_M) : Prop := Q σ
def wp_En_beginAnew (n : Nat) (x1 : Int32) (σ : sx_M) (Q : sx_M → Prop) : Prop := vp_in 0 9 ∧ (vp_in x1 7 ∧ (if σ 27 n x1.toNatClampNeg 7 = σ 14 0 0 (0 : Int32).toNatClampNeg then (wp_En_beginAnew_b32 n Q σ) else (wp_En_setTimer n x1 (σ 14 0 0 (0 : Int32).toNatClampNeg) σ (fun σ4 => wp_En_beginAnew_b32 n Q σ4))))
abbrev rm_En_beginAnew : Room := { frames := 2, cells := 0, slots := 0, locals := 48 }
set_option maxRecDepth 100000 in
set_option maxHeartbeats 4000000 in
theorem g_En_beginAnew_b32 {l : Launch} {K : sx_K} {X : sx_T} {n : Nat}  {Q : sx_M → Prop} (hX : sx_C X K prog_2_method_4_code 3 "SensorTree$Engine" none rm_En_beginAnew l) (hK : kx_C K) (hE : sx_E X K (sx_Qv K (fun σ _ => Q σ))) (hn : n < 2)  (σ : sx_M) (τ : sx_L)  (h : wp_En_beginAnew_b32 n Q  σ) : sx_G X K 3 32 [] [] (sx_H K σ τ) := by
  unfold wp_En_beginAnew_b32 at h
  exact sx_vret hX hE h d_En_beginAnew_32
set_option maxRecDepth 100000 in
set_option maxHeartbeats 4000000 in
theorem c_En_beginAnew {l : Launch} {K : sx_K} (hK : kx_C K) (n : Nat) (x1 : Int32) (σ : sx_M) (τ : sx_L) (Q : sx_M → Prop) (hn : n < 2) (h : wp_En_beginAnew n x1 σ Q) : Met l y_En_beginAnew (sx_wd y_En_beginAnew prog_2_method_4_code 3 none) rm_En_beginAnew (sx_Pc K [.ref (K.2.2.1 31 n 0), .int x1] σ τ) (sx_Qv K (fun σ _ => Q σ)) 0 0 (sx_A K) := by
  refine sx_met (by decide) (Nat.le_of_ble_eq_true rfl) (fun X hX hE => ?_)
  replace hX : sx_C X K prog_2_method_4_code 3 "SensorTree$Engine" none rm_En_beginAnew l := hX
  show sx_G X K 3 0 [(0, .ref (K.2.2.1 31 n 0)), (1, .int x1)] [] (sx_H K σ τ)
  unfold wp_En_beginAnew at h
  refine sx_aload_n (pc2 := 1) hX 0 d_En_beginAnew_0 rfl rfl rfl ?_
  refine fg_En_32 (pc2 := 4) hX (hK 31 n 0 hn (by decide)) d_En_beginAnew_1 rfl ?_
  refine fg_En_93 (pc2 := 7) hX (hK 8 0 0 (by decide) (by decide)) d_En_beginAnew_4 rfl ?_
  refine sx_iconst (v := 0) (pc2 := 8) hX d_En_beginAnew_7 (by decide) rfl ?_
  obtain ⟨hc1, h⟩ := h
  refine sx_iald (pc2 := 9) hX (hK 14 0 0 (by decide) (by decide)) rfl hc1 d_En_beginAnew_8 rfl ?_
  refine sx_istore_n (pc2 := 10) hX _ [(0, .ref (K.2.2.1 31 n 0)), (1, .int x1), (2, .int (σ 14 0 0 (0 : Int32).toNatClampNeg))] [1, 2, 0] d_En_beginAnew_9 rfl (by decide) rfl rfl rfl ?_
  refine sx_aload_n (pc2 := 11) hX 0 d_En_beginAnew_10 rfl rfl rfl ?_
  refine fg_En_22 (pc2 := 14) hX (hK 31 n 0 hn (by decide)) d_En_beginAnew_11 rfl ?_
  refine fg_En_78 (pc2 := 17) hX (hK 16 n 0 (sx_w2 hn) (by decide)) d_En_beginAnew_14 rfl ?_
  refine sx_iload_n (pc2 := 18) hX 1 d_En_beginAnew_17 rfl rfl rfl ?_
  obtain ⟨hc2, h⟩ := h
  refine sx_aald (a := K.2.2.1 27 n x1.toNatClampNeg) (pc2 := 19) hX (hK 17 n 0 (sx_w2 hn) (by decide)) 4 rfl rfl rfl hc2 d_En_beginAnew_18 rfl ?_
  refine fg_En_100 (pc2 := 22) hX (hK 27 n x1.toNatClampNeg (sx_w2 hn) (sx_lt hc2)) d_En_beginAnew_19 rfl ?_
  refine sx_iload_n (pc2 := 23) hX 2 d_En_beginAnew_22 rfl rfl rfl ?_
  refine sx_icmp_eq (tgt := 32) (pc2 := 26) hX d_En_beginAnew_23 (by decide) rfl (fun hc3 => ?_) (fun hc3 => ?_)
  · replace h := sx_t h hc3
    refine sx_sub [] [] rfl ?_
    exact g_En_beginAnew_b32 hX hK hE hn  _ _ h
  · replace h := sx_f h hc3
    refine sx_aload_n (pc2 := 27) hX 0 d_En_beginAnew_26 rfl rfl rfl ?_
    refine sx_iload_n (pc2 := 28) hX 1 d_En_beginAnew_27 rfl rfl rfl ?_
    refine sx_iload_n (pc2 := 29) hX 2 d_En_beginAnew_28 rfl rfl rfl ?_
    refine cl_En_96 (pc2 := 32) hX hK h hn ⟨Nat.le_of_ble_eq_true rfl, Nat.le_of_ble_eq_true rfl⟩ (Nat.le_of_ble_eq_true rfl) d_En_beginAnew_29 rfl (fun σ4 τ4 h => ?_)
    refine sx_sub [] [] rfl ?_
    exact g_En_beginAnew_b32 hX hK hE hn  _ _ h
theorem cl_En_189 {X : sx_T} {K : sx_K} {cc : ByteArray} {nL : Nat} {ret : Option FieldType} {rm : Room} {l : Launch} {pc pc2 : Nat} {lv : List (Nat × Value)} {st : List Value} {σ : sx_M} {τ : sx_L} {n : Nat} {x1 : Int32} {Q : sx_M → Prop} (hX : sx_C X K cc nL "SensorTree$Engine" ret rm l) (hK : kx_C K) (h : wp_En_beginAnew n x1 σ Q) (hn : n < 2) (hR : rm_En_beginAnew.frames + 1 ≤ rm.frames ∧ 8 + (3 + 11) + rm_En_beginAnew.locals ≤ rm.locals) (hst : (st.map fun v => v.category).sum ≤ 8) (hd : decode cc pc = .ok (.invokevirtual 189, 3)) (hpc : pc + 3 = pc2) (kk : ∀ (σ2 : sx_M) (τ2 : sx_L), Q σ2 → sx_G X K nL pc2 lv (st) (sx_H K σ2 τ2)) : sx_G X K nL pc lv (.int x1 :: .ref (K.2.2.1 31 n 0) :: st) (sx_H K σ τ) :=
  sx_callVv (Q := fun σ _ => Q σ) (As := [.int x1]) hX (c_En_beginAnew hK n x1 σ τ Q hn h) (hK 31 n 0 hn (by decide)) rfl rfl lk_44 lk_45 hy_En_beginAnew lk_42 lk_27 lk_43 ⟨rfl, rfl⟩ hR hst rfl hd hpc kk
theorem cl_St_165 {X : sx_T} {K : sx_K} {cc : ByteArray} {nL : Nat} {ret : Option FieldType} {rm : Room} {l : Launch} {pc pc2 : Nat} {lv : List (Nat × Value)} {st : List Value} {σ : sx_M} {τ : sx_L} {n : Nat} {x1 : Int32} {Q : sx_M → Prop} (hX : sx_C X K cc nL "SensorTree" ret rm l) (hK : kx_C K) (h : wp_En_beginAnew n x1 σ Q) (hn : n < 2) (hR : rm_En_beginAnew.frames + 1 ≤ rm.frames ∧ 8 + (3 + 11) + rm_En_beginAnew.locals ≤ rm.locals) (hst : (st.map fun v => v.category).sum ≤ 8) (hd : decode cc pc = .ok (.invokevirtual 165, 3)) (hpc : pc + 3 = pc2) (kk : ∀ (σ2 : sx_M) (τ2 : sx_L), Q σ2 → sx_G X K nL pc2 lv (st) (sx_H K σ2 τ2)) : sx_G X K nL pc lv (.int x1 :: .ref (K.2.2.1 31 n 0) :: st) (sx_H K σ τ) :=
  sx_callVv (Q := fun σ _ => Q σ) (As := [.int x1]) hX (c_En_beginAnew hK n x1 σ τ Q hn h) (hK 31 n 0 hn (by decide)) rfl rfl lk_44 lk_45 hy_En_beginAnew lk_42 lk_27 lk_292 ⟨rfl, rfl⟩ hR hst rfl hd hpc kk
def y_Ma_copyFrom : MethodName := ⟨"SensorTree$Mail", "copyFrom", "(LSensorTree$Mail;)V"⟩
theorem hy_Ma_copyFrom : y_Ma_copyFrom.cls ≠ "java/lang/invoke/MethodHandle" ∧ y_Ma_copyFrom.cls ≠ "java/lang/invoke/VarHandle" ∧ (parseMethodDescriptor y_Ma_copyFrom.desc).map (fun d => d.parameters.length) = some 1 := by decide +kernel
theorem d_Ma_copyFrom_0 : decode prog_4_method_2_code 0 = .ok (.aload_n 0, 1) := by decide +kernel
theorem d_Ma_copyFrom_1 : decode prog_4_method_2_code 1 = .ok (.aload_n 1, 1) := by decide +kernel
theorem d_Ma_copyFrom_2 : decode prog_4_method_2_code 2 = .ok (.getfield 7, 3) := by decide +kernel
theorem d_Ma_copyFrom_5 : decode prog_4_method_2_code 5 = .ok (.putfield 7, 3) := by decide +kernel
theorem d_Ma_copyFrom_8 : decode prog_4_method_2_code 8 = .ok (.aload_n 1, 1) := by decide +kernel
theorem d_Ma_copyFrom_9 : decode prog_4_method_2_code 9 = .ok (.getfield 13, 3) := by decide +kernel
theorem d_Ma_copyFrom_12 : decode prog_4_method_2_code 12 = .ok (.iconst 0, 1) := by decide +kernel
theorem d_Ma_copyFrom_13 : decode prog_4_method_2_code 13 = .ok (.aload_n 0, 1) := by decide +kernel
theorem d_Ma_copyFrom_14 : decode prog_4_method_2_code 14 = .ok (.getfield 13, 3) := by decide +kernel
theorem d_Ma_copyFrom_17 : decode prog_4_method_2_code 17 = .ok (.iconst 0, 1) := by decide +kernel
theorem d_Ma_copyFrom_18 : decode prog_4_method_2_code 18 = .ok (.aload_n 0, 1) := by decide +kernel
theorem d_Ma_copyFrom_19 : decode prog_4_method_2_code 19 = .ok (.getfield 7, 3) := by decide +kernel
theorem d_Ma_copyFrom_22 : decode prog_4_method_2_code 22 = .ok (.invokestatic 32, 3) := by decide +kernel
theorem d_Ma_copyFrom_25 : decode prog_4_method_2_code 25 = .ok (.aload_n 1, 1) := by decide +kernel
theorem d_Ma_copyFrom_26 : decode prog_4_method_2_code 26 = .ok (.getfield 17, 3) := by decide +kernel
theorem d_Ma_copyFrom_29 : decode prog_4_method_2_code 29 = .ok (.iconst 0, 1) := by decide +kernel
theorem d_Ma_copyFrom_30 : decode prog_4_method_2_code 30 = .ok (.aload_n 0, 1) := by decide +kernel
theorem d_Ma_copyFrom_31 : decode prog_4_method_2_code 31 = .ok (.getfield 17, 3) := by decide +kernel
theorem d_Ma_copyFrom_34 : decode prog_4_method_2_code 34 = .ok (.iconst 0, 1) := by decide +kernel
theorem d_Ma_copyFrom_35 : decode prog_4_method_2_code 35 = .ok (.aload_n 0, 1) := by decide +kernel
theorem d_Ma_copyFrom_36 : decode prog_4_method_2_code 36 = .ok (.getfield 7, 3) := by decide +kernel
theorem d_Ma_copyFrom_39 : decode prog_4_method_2_code 39 = .ok (.invokestatic 32, 3) := by decide +kernel
theorem d_Ma_copyFrom_42 : decode prog_4_method_2_code 42 = .ok (.aload_n 1, 1) := by decide +kernel
theorem d_Ma_copyFrom_43 : decode prog_4_method_2_code 43 = .ok (.getfield 20, 3) := by decide +kernel
theorem d_Ma_copyFrom_46 : decode prog_4_method_2_code 46 = .ok (.iconst 0, 1) := by decide +kernel
theorem d_Ma_copyFrom_47 : decode prog_4_method_2_code 47 = .ok (.aload_n 0, 1) := by decide +kernel
theorem d_Ma_copyFrom_48 : decode prog_4_method_2_code 48 = .ok (.getfield 20, 3) := by decide +kernel
theorem d_Ma_copyFrom_51 : decode prog_4_method_2_code 51 = .ok (.iconst 0, 1) := by decide +kernel
theorem d_Ma_copyFrom_52 : decode prog_4_method_2_code 52 = .ok (.aload_n 0, 1) := by decide +kernel
theorem d_Ma_copyFrom_53 : decode prog_4_method_2_code 53 = .ok (.getfield 7, 3) := by decide +kernel
theorem d_Ma_copyFrom_56 : decode prog_4_method_2_code 56 = .ok (.invokestatic 32, 3) := by decide +kernel
theorem d_Ma_copyFrom_59 : decode prog_4_method_2_code 59 = .ok (.aload_n 1, 1) := by decide +kernel
theorem d_Ma_copyFrom_60 : decode prog_4_method_2_code 60 = .ok (.getfield 23, 3) := by decide +kernel
theorem d_Ma_copyFrom_63 : decode prog_4_method_2_code 63 = .ok (.iconst 0, 1) := by decide +kernel
theorem d_Ma_copyFrom_64 : decode prog_4_method_2_code 64 = .ok (.aload_n 0, 1) := by decide +kernel
theorem d_Ma_copyFrom_65 : decode prog_4_method_2_code 65 = .ok (.getfield 23, 3) := by decide +kernel
theorem d_Ma_copyFrom_68 : decode prog_4_method_2_code 68 = .ok (.iconst 0, 1) := by decide +kernel
theorem d_Ma_copyFrom_69 : decode prog_4_method_2_code 69 = .ok (.aload_n 0, 1) := by decide +kernel
theorem d_Ma_copyFrom_70 : decode prog_4_method_2_code 70 = .ok (.getfield 7, 3) := by decide +kernel
theorem d_Ma_copyFrom_73 : decode prog_4_method_2_code 73 = .ok (.invokestatic 32, 3) := by decide +kernel
theorem d_Ma_copyFrom_76 : decode prog_4_method_2_code 76 = .ok (.aload_n 1, 1) := by decide +kernel
theorem d_Ma_copyFrom_77 : decode prog_4_method_2_code 77 = .ok (.getfield 26, 3) := by decide +kernel
theorem d_Ma_copyFrom_80 : decode prog_4_method_2_code 80 = .ok (.iconst 0, 1) := by decide +kernel
theorem d_Ma_copyFrom_81 : decode prog_4_method_2_code 81 = .ok (.aload_n 0, 1) := by decide +kernel
theorem d_Ma_copyFrom_82 : decode prog_4_method_2_code 82 = .ok (.getfield 26, 3) := by decide +kernel
theorem d_Ma_copyFrom_85 : decode prog_4_method_2_code 85 = .ok (.iconst 0, 1) := by decide +kernel
theorem d_Ma_copyFrom_86 : decode prog_4_method_2_code 86 = .ok (.aload_n 0, 1) := by decide +kernel
theorem d_Ma_copyFrom_87 : decode prog_4_method_2_code 87 = .ok (.getfield 7, 3) := by decide +kernel
theorem d_Ma_copyFrom_90 : decode prog_4_method_2_code 90 = .ok (.invokestatic 32, 3) := by decide +kernel
theorem d_Ma_copyFrom_93 : decode prog_4_method_2_code 93 = .ok (.aload_n 1, 1) := by decide +kernel
theorem d_Ma_copyFrom_94 : decode prog_4_method_2_code 94 = .ok (.getfield 29, 3) := by decide +kernel
theorem d_Ma_copyFrom_97 : decode prog_4_method_2_code 97 = .ok (.iconst 0, 1) := by decide +kernel
theorem d_Ma_copyFrom_98 : decode prog_4_method_2_code 98 = .ok (.aload_n 0, 1) := by decide +kernel
theorem d_Ma_copyFrom_99 : decode prog_4_method_2_code 99 = .ok (.getfield 29, 3) := by decide +kernel
theorem d_Ma_copyFrom_102 : decode prog_4_method_2_code 102 = .ok (.iconst 0, 1) := by decide +kernel
theorem d_Ma_copyFrom_103 : decode prog_4_method_2_code 103 = .ok (.aload_n 0, 1) := by decide +kernel
theorem d_Ma_copyFrom_104 : decode prog_4_method_2_code 104 = .ok (.getfield 7, 3) := by decide +kernel
theorem d_Ma_copyFrom_107 : decode prog_4_method_2_code 107 = .ok (.invokestatic 32, 3) := by decide +kernel
theorem d_Ma_copyFrom_110 : decode prog_4_method_2_code 110 = .ok (.return_, 1) := by decide +kernel
def wp_Ma_copyFrom (n : Nat) (n1 : Nat) (σ : sx_M) (Q : sx_M → Prop) : Prop := ∀ σ1 : sx_M, σ1 = sx_u σ 20 n 0 0 (σ 20 n1 0 0) → ((¬ (0 : Int32) < 0 ∧ ¬ (0 : Int32) < 0 ∧ ¬ (σ1 20 n 0 0) < 0 ∧ (0 : Int32).toNatClampNeg + (σ1 20 n 0 0).toNatClampNeg ≤ 200 ∧ (0 : Int32).toNatClampNeg + (σ1 20 n 0 0).toNatClampNeg ≤ 200) ∧ (∀ σ3 : sx_M, σ3 = sx_r σ1 21 n 0 (va_cpy (σ1 21 n1 0) (σ1 21 n 0) (0 : Int32).toNatClampNeg (0 : Int32).toNatClampNeg (σ1 20 n 0 0).toNatClampNeg) → ((¬ (0 : Int32) < 0 ∧ ¬ (0 : Int32) < 0 ∧ ¬ (σ3 20 n 0 0) < 0 ∧ (0 : Int32).toNatClampNeg + (σ3 20 n 0 0).toNatClampNeg ≤ 200 ∧ (0 : Int32).toNatClampNeg + (σ3 20 n 0 0).toNatClampNeg ≤ 200) ∧ (∀ σ5 : sx_M, σ5 = sx_r σ3 22 n 0 (va_cpy (σ3 22 n1 0) (σ3 22 n 0) (0 : Int32).toNatClampNeg (0 : Int32).toNatClampNeg (σ3 20 n 0 0).toNatClampNeg) → ((¬ (0 : Int32) < 0 ∧ ¬ (0 : Int32) < 0 ∧ ¬ (σ5 20 n 0 0) < 0 ∧ (0 : Int32).toNatClampNeg + (σ5 20 n 0 0).toNatClampNeg ≤ 200 ∧ (0 : Int32).toNatClampNeg + (σ5 20 n 0 0).toNatClampNeg ≤ 200) ∧ (∀ σ7 : sx_M, σ7 = sx_r σ5 23 n 0 (va_cpy (σ5 23 n1 0) (σ5 23 n 0) (0 : Int32).toNatClampNeg (0 : Int32).toNatClampNeg (σ5 20 n 0 0).toNatClampNeg) → ((¬ (0 : Int32) < 0 ∧ ¬ (0 : Int32) < 0 ∧ ¬ (σ7 20 n 0 0) < 0 ∧ (0 : Int32).toNatClampNeg + (σ7 20 n 0 0).toNatClampNeg ≤ 200 ∧ (0 : Int32).toNatClampNeg + (σ7 20 n 0 0).toNatClampNeg ≤ 200) ∧ (∀ σ9 : sx_M, σ9 = sx_r σ7 24 n 0 (va_cpy (σ7 24 n1 0) (σ7 24 n 0) (0 : Int32).toNatClampNeg (0 : Int32).toNatClampNeg (σ7 20 n 0 0).toNatClampNeg) → ((¬ (0 : Int32) < 0 ∧ ¬ (0 : Int32) < 0 ∧ ¬ (σ9 20 n 0 0) < 0 ∧ (0 : Int32).toNatClampNeg + (σ9 20 n 0 0).toNatClampNeg ≤ 200 ∧ (0 : Int32).toNatClampNeg + (σ9 20 n 0 0).toNatClampNeg ≤ 200) ∧ (∀ σ11 : sx_M, σ11 = sx_r σ9 25 n 0 (va_cpy (σ9 25 n1 0) (σ9 25 n 0) (0 : Int32).toNatClampNeg (0 : Int32).toNatClampNeg (σ9 20 n 0 0).toNatClampNeg) → ((¬ (0 : Int32) < 0 ∧ ¬ (0 : Int32) < 0 ∧ ¬ (σ11 20 n 0 0) < 0 ∧ (0 : Int32).toNatClampNeg + (σ11 20 n 0 0).toNatClampNeg ≤ 200 ∧ (0 : Int32).toNatClampNeg + (σ11 20 n 0 0).toNatClampNeg ≤ 200) ∧ (∀ σ13 : sx_M, σ13 = sx_r σ11 26 n 0 (va_cpy (σ11 26 n1 0) (σ11 26 n 0) (0 : Int32).toNatClampNeg (0 : Int32).toNatClampNeg (σ11 20 n 0 0).toNatClampNeg) → (Q σ13)))))))))))))
abbrev rm_Ma_copyFrom : Room := { frames := 1, cells := 0, slots := 0, locals := 18 }
set_option maxRecDepth 100000 in
set_option maxHeartbeats 4000000 in
theorem c_Ma_copyFrom {l : Launch} {K : sx_K} (hK : kx_C K) (n : Nat) (n1 : Nat) (σ : sx_M) (τ : sx_L) (Q : sx_M → Prop) (hn : n < 27) (hn1 : n1 < 27) (h : wp_Ma_copyFrom n n1 σ Q) : Met l y_Ma_copyFrom (sx_wd y_Ma_copyFrom prog_4_method_2_code 2 none) rm_Ma_copyFrom (sx_Pc K [.ref (K.2.2.1 20 n 0), .ref (K.2.2.1 20 n1 0)] σ τ) (sx_Qv K (fun σ _ => Q σ)) 0 0 (sx_A K) := by
  refine sx_met (by decide) (Nat.le_of_ble_eq_true rfl) (fun X hX hE => ?_)
  replace hX : sx_C X K prog_4_method_2_code 2 "SensorTree$Mail" none rm_Ma_copyFrom l := hX
  show sx_G X K 2 0 [(0, .ref (K.2.2.1 20 n 0)), (1, .ref (K.2.2.1 20 n1 0))] [] (sx_H K σ τ)
  unfold wp_Ma_copyFrom at h
  refine sx_aload_n (pc2 := 1) hX 0 d_Ma_copyFrom_0 rfl rfl rfl ?_
  refine sx_aload_n (pc2 := 2) hX 1 d_Ma_copyFrom_1 rfl rfl rfl ?_
  refine fg_Ma_7 (pc2 := 5) hX (hK 20 n1 0 hn1 (by decide)) d_Ma_copyFrom_2 rfl ?_
  refine fp_Ma_7 (pc2 := 8) hX (hK 20 n 0 hn (by decide)) d_Ma_copyFrom_5 rfl ?_
  refine sx_nm (fun σ1 e1 => ?_)
  replace h := h σ1 e1
  refine sx_aload_n (pc2 := 9) hX 1 d_Ma_copyFrom_8 rfl rfl rfl ?_
  refine fg_Ma_13 (pc2 := 12) hX (hK 20 n1 0 hn1 (by decide)) d_Ma_copyFrom_9 rfl ?_
  refine sx_iconst (v := 0) (pc2 := 13) hX d_Ma_copyFrom_12 (by decide) rfl ?_
  refine sx_aload_n (pc2 := 14) hX 0 d_Ma_copyFrom_13 rfl rfl rfl ?_
  refine fg_Ma_13 (pc2 := 17) hX (hK 20 n 0 hn (by decide)) d_Ma_copyFrom_14 rfl ?_
  refine sx_iconst (v := 0) (pc2 := 18) hX d_Ma_copyFrom_17 (by decide) rfl ?_
  refine sx_aload_n (pc2 := 19) hX 0 d_Ma_copyFrom_18 rfl rfl rfl ?_
  refine fg_Ma_7 (pc2 := 22) hX (hK 20 n 0 hn (by decide)) d_Ma_copyFrom_19 rfl ?_
  obtain ⟨hc2, h⟩ := h
  refine sx_copy (pc2 := 25) hX (hK 21 n1 0 hn1 (by decide)) (hK 21 n 0 hn (by decide)) rfl (fun _ => rfl) lk_1 kx_cpy.1 kx_cpy.2.1 kx_cpy.2.2 hc2.1 hc2.2.1 hc2.2.2.1 hc2.2.2.2.1 hc2.2.2.2.2 (by decide) d_Ma_copyFrom_22 rfl ?_
  refine sx_nm (fun σ3 e3 => ?_)
  replace h := h σ3 e3
  refine sx_aload_n (pc2 := 26) hX 1 d_Ma_copyFrom_25 rfl rfl rfl ?_
  refine fg_Ma_17 (pc2 := 29) hX (hK 20 n1 0 hn1 (by decide)) d_Ma_copyFrom_26 rfl ?_
  refine sx_iconst (v := 0) (pc2 := 30) hX d_Ma_copyFrom_29 (by decide) rfl ?_
  refine sx_aload_n (pc2 := 31) hX 0 d_Ma_copyFrom_30 rfl rfl rfl ?_
  refine fg_Ma_17 (pc2 := 34) hX (hK 20 n 0 hn (by decide)) d_Ma_copyFrom_31 rfl ?_
  refine sx_iconst (v := 0) (pc2 := 35) hX d_Ma_copyFrom_34 (by decide) rfl ?_
  refine sx_aload_n (pc2 := 36) hX 0 d_Ma_copyFrom_35 rfl rfl rfl ?_
  refine fg_Ma_7 (pc2 := 39) hX (hK 20 n 0 hn (by decide)) d_Ma_copyFrom_36 rfl ?_
  obtain ⟨hc4, h⟩ := h
  refine sx_copy (pc2 := 42) hX (hK 22 n1 0 hn1 (by decide)) (hK 22 n 0 hn (by decide)) rfl (fun _ => rfl) lk_1 kx_cpy.1 kx_cpy.2.1 kx_cpy.2.2 hc4.1 hc4.2.1 hc4.2.2.1 hc4.2.2.2.1 hc4.2.2.2.2 (by decide) d_Ma_copyFrom_39 rfl ?_
  refine sx_nm (fun σ5 e5 => ?_)
  replace h := h σ5 e5
  refine sx_aload_n (pc2 := 43) hX 1 d_Ma_copyFrom_42 rfl rfl rfl ?_
  refine fg_Ma_20 (pc2 := 46) hX (hK 20 n1 0 hn1 (by decide)) d_Ma_copyFrom_43 rfl ?_
  refine sx_iconst (v := 0) (pc2 := 47) hX d_Ma_copyFrom_46 (by decide) rfl ?_
  refine sx_aload_n (pc2 := 48) hX 0 d_Ma_copyFrom_47 rfl rfl rfl ?_
  refine fg_Ma_20 (pc2 := 51) hX (hK 20 n 0 hn (by decide)) d_Ma_copyFrom_48 rfl ?_
  refine sx_iconst (v := 0) (pc2 := 52) hX d_Ma_copyFrom_51 (by decide) rfl ?_
  refine sx_aload_n (pc2 := 53) hX 0 d_Ma_copyFrom_52 rfl rfl rfl ?_
  refine fg_Ma_7 (pc2 := 56) hX (hK 20 n 0 hn (by decide)) d_Ma_copyFrom_53 rfl ?_
  obtain ⟨hc6, h⟩ := h
  refine sx_copy (pc2 := 59) hX (hK 23 n1 0 hn1 (by decide)) (hK 23 n 0 hn (by decide)) rfl (fun _ => rfl) lk_1 kx_cpy.1 kx_cpy.2.1 kx_cpy.2.2 hc6.1 hc6.2.1 hc6.2.2.1 hc6.2.2.2.1 hc6.2.2.2.2 (by decide) d_Ma_copyFrom_56 rfl ?_
  refine sx_nm (fun σ7 e7 => ?_)
  replace h := h σ7 e7
  refine sx_aload_n (pc2 := 60) hX 1 d_Ma_copyFrom_59 rfl rfl rfl ?_
  refine fg_Ma_23 (pc2 := 63) hX (hK 20 n1 0 hn1 (by decide)) d_Ma_copyFrom_60 rfl ?_
  refine sx_iconst (v := 0) (pc2 := 64) hX d_Ma_copyFrom_63 (by decide) rfl ?_
  refine sx_aload_n (pc2 := 65) hX 0 d_Ma_copyFrom_64 rfl rfl rfl ?_
  refine fg_Ma_23 (pc2 := 68) hX (hK 20 n 0 hn (by decide)) d_Ma_copyFrom_65 rfl ?_
  refine sx_iconst (v := 0) (pc2 := 69) hX d_Ma_copyFrom_68 (by decide) rfl ?_
  refine sx_aload_n (pc2 := 70) hX 0 d_Ma_copyFrom_69 rfl rfl rfl ?_
  refine fg_Ma_7 (pc2 := 73) hX (hK 20 n 0 hn (by decide)) d_Ma_copyFrom_70 rfl ?_
  obtain ⟨hc8, h⟩ := h
  refine sx_copy (pc2 := 76) hX (hK 24 n1 0 hn1 (by decide)) (hK 24 n 0 hn (by decide)) rfl (fun _ => rfl) lk_1 kx_cpy.1 kx_cpy.2.1 kx_cpy.2.2 hc8.1 hc8.2.1 hc8.2.2.1 hc8.2.2.2.1 hc8.2.2.2.2 (by decide) d_Ma_copyFrom_73 rfl ?_
  refine sx_nm (fun σ9 e9 => ?_)
  replace h := h σ9 e9
  refine sx_aload_n (pc2 := 77) hX 1 d_Ma_copyFrom_76 rfl rfl rfl ?_
  refine fg_Ma_26 (pc2 := 80) hX (hK 20 n1 0 hn1 (by decide)) d_Ma_copyFrom_77 rfl ?_
  refine sx_iconst (v := 0) (pc2 := 81) hX d_Ma_copyFrom_80 (by decide) rfl ?_
  refine sx_aload_n (pc2 := 82) hX 0 d_Ma_copyFrom_81 rfl rfl rfl ?_
  refine fg_Ma_26 (pc2 := 85) hX (hK 20 n 0 hn (by decide)) d_Ma_copyFrom_82 rfl ?_
  refine sx_iconst (v := 0) (pc2 := 86) hX d_Ma_copyFrom_85 (by decide) rfl ?_
  refine sx_aload_n (pc2 := 87) hX 0 d_Ma_copyFrom_86 rfl rfl rfl ?_
  refine fg_Ma_7 (pc2 := 90) hX (hK 20 n 0 hn (by decide)) d_Ma_copyFrom_87 rfl ?_
  obtain ⟨hc10, h⟩ := h
  refine sx_copy (pc2 := 93) hX (hK 25 n1 0 hn1 (by decide)) (hK 25 n 0 hn (by decide)) rfl (fun _ => rfl) lk_1 kx_cpy.1 kx_cpy.2.1 kx_cpy.2.2 hc10.1 hc10.2.1 hc10.2.2.1 hc10.2.2.2.1 hc10.2.2.2.2 (by decide) d_Ma_copyFrom_90 rfl ?_
  refine sx_nm (fun σ11 e11 => ?_)
  replace h := h σ11 e11
  refine sx_aload_n (pc2 := 94) hX 1 d_Ma_copyFrom_93 rfl rfl rfl ?_
  refine fg_Ma_29 (pc2 := 97) hX (hK 20 n1 0 hn1 (by decide)) d_Ma_copyFrom_94 rfl ?_
  refine sx_iconst (v := 0) (pc2 := 98) hX d_Ma_copyFrom_97 (by decide) rfl ?_
  refine sx_aload_n (pc2 := 99) hX 0 d_Ma_copyFrom_98 rfl rfl rfl ?_
  refine fg_Ma_29 (pc2 := 102) hX (hK 20 n 0 hn (by decide)) d_Ma_copyFrom_99 rfl ?_
  refine sx_iconst (v := 0) (pc2 := 103) hX d_Ma_copyFrom_102 (by decide) rfl ?_
  refine sx_aload_n (pc2 := 104) hX 0 d_Ma_copyFrom_103 rfl rfl rfl ?_
  refine fg_Ma_7 (pc2 := 107) hX (hK 20 n 0 hn (by decide)) d_Ma_copyFrom_104 rfl ?_
  obtain ⟨hc12, h⟩ := h
  refine sx_copy (pc2 := 110) hX (hK 26 n1 0 hn1 (by decide)) (hK 26 n 0 hn (by decide)) rfl (fun _ => rfl) lk_1 kx_cpy.1 kx_cpy.2.1 kx_cpy.2.2 hc12.1 hc12.2.1 hc12.2.2.1 hc12.2.2.2.1 hc12.2.2.2.2 (by decide) d_Ma_copyFrom_107 rfl ?_
  refine sx_nm (fun σ13 e13 => ?_)
  replace h := h σ13 e13
  exact sx_vret hX hE h d_Ma_copyFrom_110
theorem cl_En_117 {X : sx_T} {K : sx_K} {cc : ByteArray} {nL : Nat} {ret : Option FieldType} {rm : Room} {l : Launch} {pc pc2 : Nat} {lv : List (Nat × Value)} {st : List Value} {σ : sx_M} {τ : sx_L} {n : Nat} {n1 : Nat} {Q : sx_M → Prop} (hX : sx_C X K cc nL "SensorTree$Engine" ret rm l) (hK : kx_C K) (h : wp_Ma_copyFrom n n1 σ Q) (hn : n < 27) (hn1 : n1 < 27) (hR : rm_Ma_copyFrom.frames + 1 ≤ rm.frames ∧ 8 + (2 + 11) + rm_Ma_copyFrom.locals ≤ rm.locals) (hst : (st.map fun v => v.category).sum ≤ 8) (hd : decode cc pc = .ok (.invokevirtual 117, 3)) (hpc : pc + 3 = pc2) (kk : ∀ (σ2 : sx_M) (τ2 : sx_L), Q σ2 → sx_G X K nL pc2 lv (st) (sx_H K σ2 τ2)) : sx_G X K nL pc lv (.ref (K.2.2.1 20 n1 0) :: .ref (K.2.2.1 20 n 0) :: st) (sx_H K σ τ) :=
  sx_callVv (Q := fun σ _ => Q σ) (As := [.ref (K.2.2.1 20 n1 0)]) hX (c_Ma_copyFrom hK n n1 σ τ Q hn hn1 h) (hK 20 n 0 hn (by decide)) rfl rfl lk_111 lk_112 hy_Ma_copyFrom lk_109 lk_108 lk_110 ⟨rfl, rfl⟩ hR hst rfl hd hpc kk
theorem cl_Ne_72 {X : sx_T} {K : sx_K} {cc : ByteArray} {nL : Nat} {ret : Option FieldType} {rm : Room} {l : Launch} {pc pc2 : Nat} {lv : List (Nat × Value)} {st : List Value} {σ : sx_M} {τ : sx_L} {n : Nat} {n1 : Nat} {Q : sx_M → Prop} (hX : sx_C X K cc nL "SensorTree$Net" ret rm l) (hK : kx_C K) (h : wp_Ma_copyFrom n n1 σ Q) (hn : n < 27) (hn1 : n1 < 27) (hR : rm_Ma_copyFrom.frames + 1 ≤ rm.frames ∧ 8 + (2 + 11) + rm_Ma_copyFrom.locals ≤ rm.locals) (hst : (st.map fun v => v.category).sum ≤ 8) (hd : decode cc pc = .ok (.invokevirtual 72, 3)) (hpc : pc + 3 = pc2) (kk : ∀ (σ2 : sx_M) (τ2 : sx_L), Q σ2 → sx_G X K nL pc2 lv (st) (sx_H K σ2 τ2)) : sx_G X K nL pc lv (.ref (K.2.2.1 20 n1 0) :: .ref (K.2.2.1 20 n 0) :: st) (sx_H K σ τ) :=
  sx_callVv (Q := fun σ _ => Q σ) (As := [.ref (K.2.2.1 20 n1 0)]) hX (c_Ma_copyFrom hK n n1 σ τ Q hn hn1 h) (hK 20 n 0 hn (by decide)) rfl rfl lk_111 lk_112 hy_Ma_copyFrom lk_109 lk_108 lk_121 ⟨rfl, rfl⟩ hR hst rfl hd hpc kk
def y_Ne_areNeighbours : MethodName := ⟨"SensorTree$Net", "areNeighbours", "(II)Z"⟩
theorem hy_Ne_areNeighbours : y_Ne_areNeighbours.cls ≠ "java/lang/invoke/MethodHandle" ∧ y_Ne_areNeighbours.cls ≠ "java/lang/invoke/VarHandle" ∧ (parseMethodDescriptor y_Ne_areNeighbours.desc).map (fun d => d.parameters.length) = some 2 := by decide +kernel
theorem d_Ne_areNeighbours_0 : decode prog_5_method_5_code 0 = .ok (.iload_n 1, 1) := by decide +kernel
theorem d_Ne_areNeighbours_1 : decode prog_5_method_5_code 1 = .ok (.ifCond .lt 19, 3) := by decide +kernel
theorem d_Ne_areNeighbours_4 : decode prog_5_method_5_code 4 = .ok (.iload_n 1, 1) := by decide +kernel
theorem d_Ne_areNeighbours_5 : decode prog_5_method_5_code 5 = .ok (.bipush 7, 2) := by decide +kernel
theorem d_Ne_areNeighbours_7 : decode prog_5_method_5_code 7 = .ok (.if_icmp .ge 13, 3) := by decide +kernel
theorem d_Ne_areNeighbours_10 : decode prog_5_method_5_code 10 = .ok (.iload_n 2, 1) := by decide +kernel
theorem d_Ne_areNeighbours_11 : decode prog_5_method_5_code 11 = .ok (.ifCond .lt 9, 3) := by decide +kernel
theorem d_Ne_areNeighbours_14 : decode prog_5_method_5_code 14 = .ok (.iload_n 2, 1) := by decide +kernel
theorem d_Ne_areNeighbours_15 : decode prog_5_method_5_code 15 = .ok (.bipush 7, 2) := by decide +kernel
theorem d_Ne_areNeighbours_17 : decode prog_5_method_5_code 17 = .ok (.if_icmp .lt 5, 3) := by decide +kernel
theorem d_Ne_areNeighbours_20 : decode prog_5_method_5_code 20 = .ok (.iconst 0, 1) := by decide +kernel
theorem d_Ne_areNeighbours_21 : decode prog_5_method_5_code 21 = .ok (.ireturn, 1) := by decide +kernel
theorem d_Ne_areNeighbours_22 : decode prog_5_method_5_code 22 = .ok (.aload_n 0, 1) := by decide +kernel
theorem d_Ne_areNeighbours_23 : decode prog_5_method_5_code 23 = .ok (.getfield 53, 3) := by decide +kernel
theorem d_Ne_areNeighbours_26 : decode prog_5_method_5_code 26 = .ok (.getfield 79, 3) := by decide +kernel
theorem d_Ne_areNeighbours_29 : decode prog_5_method_5_code 29 = .ok (.iload_n 1, 1) := by decide +kernel
theorem d_Ne_areNeighbours_30 : decode prog_5_method_5_code 30 = .ok (.aaload, 1) := by decide +kernel
theorem d_Ne_areNeighbours_31 : decode prog_5_method_5_code 31 = .ok (.iload_n 2, 1) := by decide +kernel
theorem d_Ne_areNeighbours_32 : decode prog_5_method_5_code 32 = .ok (.iaload, 1) := by decide +kernel
theorem d_Ne_areNeighbours_33 : decode prog_5_method_5_code 33 = .ok (.istore_n 3, 1) := by decide +kernel
theorem d_Ne_areNeighbours_34 : decode prog_5_method_5_code 34 = .ok (.iload_n 3, 1) := by decide +kernel
theorem d_Ne_areNeighbours_35 : decode prog_5_method_5_code 35 = .ok (.iconst (-1), 1) := by decide +kernel
theorem d_Ne_areNeighbours_36 : decode prog_5_method_5_code 36 = .ok (.if_icmp .eq 41, 3) := by decide +kernel
theorem d_Ne_areNeighbours_39 : decode prog_5_method_5_code 39 = .ok (.aload_n 0, 1) := by decide +kernel
theorem d_Ne_areNeighbours_40 : decode prog_5_method_5_code 40 = .ok (.getfield 39, 3) := by decide +kernel
theorem d_Ne_areNeighbours_43 : decode prog_5_method_5_code 43 = .ok (.iload_n 3, 1) := by decide +kernel
theorem d_Ne_areNeighbours_44 : decode prog_5_method_5_code 44 = .ok (.iaload, 1) := by decide +kernel
theorem d_Ne_areNeighbours_45 : decode prog_5_method_5_code 45 = .ok (.iconst 1, 1) := by decide +kernel
theorem d_Ne_areNeighbours_46 : decode prog_5_method_5_code 46 = .ok (.if_icmp .ne 31, 3) := by decide +kernel
theorem d_Ne_areNeighbours_49 : decode prog_5_method_5_code 49 = .ok (.aload_n 0, 1) := by decide +kernel
theorem d_Ne_areNeighbours_50 : decode prog_5_method_5_code 50 = .ok (.getfield 35, 3) := by decide +kernel
theorem d_Ne_areNeighbours_53 : decode prog_5_method_5_code 53 = .ok (.iload_n 1, 1) := by decide +kernel
theorem d_Ne_areNeighbours_54 : decode prog_5_method_5_code 54 = .ok (.aaload, 1) := by decide +kernel
theorem d_Ne_areNeighbours_55 : decode prog_5_method_5_code 55 = .ok (.getfield 83, 3) := by decide +kernel
theorem d_Ne_areNeighbours_58 : decode prog_5_method_5_code 58 = .ok (.ifCond .eq 19, 3) := by decide +kernel
theorem d_Ne_areNeighbours_61 : decode prog_5_method_5_code 61 = .ok (.aload_n 0, 1) := by decide +kernel
theorem d_Ne_areNeighbours_62 : decode prog_5_method_5_code 62 = .ok (.getfield 35, 3) := by decide +kernel
theorem d_Ne_areNeighbours_65 : decode prog_5_method_5_code 65 = .ok (.iload_n 2, 1) := by decide +kernel
theorem d_Ne_areNeighbours_66 : decode prog_5_method_5_code 66 = .ok (.aaload, 1) := by decide +kernel
theorem d_Ne_areNeighbours_67 : decode prog_5_method_5_code 67 = .ok (.getfield 83, 3) := by decide +kernel
theorem d_Ne_areNeighbours_70 : decode prog_5_method_5_code 70 = .ok (.ifCond .eq 7, 3) := by decide +kernel
theorem d_Ne_areNeighbours_73 : decode prog_5_method_5_code 73 = .ok (.iconst 1, 1) := by decide +kernel
theorem d_Ne_areNeighbours_74 : decode prog_5_method_5_code 74 = .ok (.goto 4, 3) := by decide +kernel
theorem d_Ne_areNeighbours_77 : decode prog_5_method_5_code 77 = .ok (.iconst 0, 1) := by decide +kernel
theorem d_Ne_areNeighbours_78 : decode prog_5_method_5_code 78 = .ok (.ireturn, 1) := by decide +kernel
def wp_Ne_areNeighbours_b78 (n : Nat)  (Q : Int32 → sx_M → Prop) (w0 : Int32) (σ : sx_M) : Prop := (w0 = 0 ∨ w0 = 1) ∧ (Q w0 σ)
def wp_Ne_areNeighbours_b77 (n : Nat)  (Q : Int32 → sx_M → Prop)  (σ : sx_M) : Prop := wp_Ne_areNeighbours_b78 n Q 0 σ
def wp_Ne_areNeighbours_b20 (n : Nat)  (Q : Int32 → sx_M → Prop)  (σ : sx_M) : Prop := Q 0 σ
def wp_Ne_areNeighbours (n : Nat) (x1 : Int32) (x2 : Int32) (σ : sx_M) (Q : Int32 → sx_M → Prop) : Prop := if x1 < 0 then (wp_Ne_areNeighbours_b20 n Q σ) else (if 7 ≤ x1 then (wp_Ne_areNeighbours_b20 n Q σ) else (if x2 < 0 then (wp_Ne_areNeighbours_b20 n Q σ) else (if x2 < 7 then (vp_in x1 7 ∧ (vp_in x2 7 ∧ (if σ 13 0 x1.toNatClampNeg x2.toNatClampNeg = (-1) then (wp_Ne_areNeighbours_b77 n Q σ) else (vp_in (σ 13 0 x1.toNatClampNeg x2.toNatClampNeg) 16 ∧ (if σ 18 n 0 (σ 13 0 x1.toNatClampNeg x2.toNatClampNeg).toNatClampNeg = 1 then (vp_in x1 7 ∧ (if σ 27 n x1.toNatClampNeg 0 = 0 then (wp_Ne_areNeighbours_b77 n Q σ) else (vp_in x2 7 ∧ (if σ 27 n x2.toNatClampNeg 0 = 0 then (wp_Ne_areNeighbours_b77 n Q σ) else (wp_Ne_areNeighbours_b78 n Q 1 σ))))) else (wp_Ne_areNeighbours_b77 n Q σ)))))) else (wp_Ne_areNeighbours_b20 n Q σ))))
abbrev rm_Ne_areNeighbours : Room := { frames := 0, cells := 0, slots := 0, locals := 0 }
set_option maxRecDepth 100000 in
set_option maxHeartbeats 4000000 in
theorem g_Ne_areNeighbours_b78 {l : Launch} {K : sx_K} {X : sx_T} {n : Nat}  {Q : Int32 → sx_M → Prop} (hX : sx_C X K prog_5_method_5_code 4 "SensorTree$Net" (some .boolean) rm_Ne_areNeighbours l) (hK : kx_C K) (hE : sx_E X K (sx_Qi K (fun r σ _ => Q r σ))) (hn : n < 25) (w0 : Int32) (σ : sx_M) (τ : sx_L)  (h : wp_Ne_areNeighbours_b78 n Q  w0 σ) : sx_G X K 4 78 [] [.int w0] (sx_H K σ τ) := by
  unfold wp_Ne_areNeighbours_b78 at h
  obtain ⟨hc1, h⟩ := h
  exact sx_zret hX hE hc1 h d_Ne_areNeighbours_78
set_option maxRecDepth 100000 in
set_option maxHeartbeats 4000000 in
theorem g_Ne_areNeighbours_b77 {l : Launch} {K : sx_K} {X : sx_T} {n : Nat}  {Q : Int32 → sx_M → Prop} (hX : sx_C X K prog_5_method_5_code 4 "SensorTree$Net" (some .boolean) rm_Ne_areNeighbours l) (hK : kx_C K) (hE : sx_E X K (sx_Qi K (fun r σ _ => Q r σ))) (hn : n < 25)  (σ : sx_M) (τ : sx_L)  (h : wp_Ne_areNeighbours_b77 n Q  σ) : sx_G X K 4 77 [] [] (sx_H K σ τ) := by
  unfold wp_Ne_areNeighbours_b77 at h
  refine sx_iconst (v := 0) (pc2 := 78) hX d_Ne_areNeighbours_77 (by decide) rfl ?_
  exact g_Ne_areNeighbours_b78 hX hK hE hn  0 _ _ h
set_option maxRecDepth 100000 in
set_option maxHeartbeats 4000000 in
theorem g_Ne_areNeighbours_b20 {l : Launch} {K : sx_K} {X : sx_T} {n : Nat}  {Q : Int32 → sx_M → Prop} (hX : sx_C X K prog_5_method_5_code 4 "SensorTree$Net" (some .boolean) rm_Ne_areNeighbours l) (hK : kx_C K) (hE : sx_E X K (sx_Qi K (fun r σ _ => Q r σ))) (hn : n < 25)  (σ : sx_M) (τ : sx_L)  (h : wp_Ne_areNeighbours_b20 n Q  σ) : sx_G X K 4 20 [] [] (sx_H K σ τ) := by
  unfold wp_Ne_areNeighbours_b20 at h
  refine sx_iconst (v := 0) (pc2 := 21) hX d_Ne_areNeighbours_20 (by decide) rfl ?_
  exact sx_zret hX hE (by decide) h d_Ne_areNeighbours_21
set_option maxRecDepth 100000 in
set_option maxHeartbeats 4000000 in
theorem c_Ne_areNeighbours {l : Launch} {K : sx_K} (hK : kx_C K) (n : Nat) (x1 : Int32) (x2 : Int32) (σ : sx_M) (τ : sx_L) (Q : Int32 → sx_M → Prop) (hn : n < 25) (h : wp_Ne_areNeighbours n x1 x2 σ Q) : Met l y_Ne_areNeighbours (sx_wd y_Ne_areNeighbours prog_5_method_5_code 4 (some .boolean)) rm_Ne_areNeighbours (sx_Pc K [.ref (K.2.2.1 16 n 0), .int x1, .int x2] σ τ) (sx_Qi K (fun r σ _ => Q r σ)) 0 0 (sx_A K) := by
  refine sx_met (by decide) (Nat.le_of_ble_eq_true rfl) (fun X hX hE => ?_)
  replace hX : sx_C X K prog_5_method_5_code 4 "SensorTree$Net" (some .boolean) rm_Ne_areNeighbours l := hX
  show sx_G X K 4 0 [(0, .ref (K.2.2.1 16 n 0)), (1, .int x1), (2, .int x2)] [] (sx_H K σ τ)
  unfold wp_Ne_areNeighbours at h
  refine sx_iload_n (pc2 := 1) hX 1 d_Ne_areNeighbours_0 rfl rfl rfl ?_
  refine sx_if_lt (tgt := 20) (pc2 := 4) hX d_Ne_areNeighbours_1 (by decide) rfl (fun hc2 => ?_) (fun hc2 => ?_)
  · replace h := sx_t h hc2
    refine sx_sub [] [] rfl ?_
    exact g_Ne_areNeighbours_b20 hX hK hE hn  _ _ h
  · replace h := sx_f h hc2
    refine sx_iload_n (pc2 := 5) hX 1 d_Ne_areNeighbours_4 rfl rfl rfl ?_
    refine sx_bipush (v := 7) (pc2 := 7) hX d_Ne_areNeighbours_5 (by decide) rfl ?_
    refine sx_icmp_ge (tgt := 20) (pc2 := 10) hX d_Ne_areNeighbours_7 (by decide) rfl (fun hc3 => ?_) (fun hc3 => ?_)
    · replace h := sx_t h hc3
      refine sx_sub [] [] rfl ?_
      exact g_Ne_areNeighbours_b20 hX hK hE hn  _ _ h
    · replace h := sx_f h hc3
      refine sx_iload_n (pc2 := 11) hX 2 d_Ne_areNeighbours_10 rfl rfl rfl ?_
      refine sx_if_lt (tgt := 20) (pc2 := 14) hX d_Ne_areNeighbours_11 (by decide) rfl (fun hc4 => ?_) (fun hc4 => ?_)
      · replace h := sx_t h hc4
        refine sx_sub [] [] rfl ?_
        exact g_Ne_areNeighbours_b20 hX hK hE hn  _ _ h
      · replace h := sx_f h hc4
        refine sx_iload_n (pc2 := 15) hX 2 d_Ne_areNeighbours_14 rfl rfl rfl ?_
        refine sx_bipush (v := 7) (pc2 := 17) hX d_Ne_areNeighbours_15 (by decide) rfl ?_
        refine sx_icmp_lt (tgt := 22) (pc2 := 20) hX d_Ne_areNeighbours_17 (by decide) rfl (fun hc5 => ?_) (fun hc5 => ?_)
        · replace h := sx_t h hc5
          refine sx_aload_n (pc2 := 23) hX 0 d_Ne_areNeighbours_22 rfl rfl rfl ?_
          refine fg_Ne_53 (pc2 := 26) hX (hK 16 n 0 hn (by decide)) d_Ne_areNeighbours_23 rfl ?_
          refine fg_Ne_79 (pc2 := 29) hX (hK 8 0 0 (by decide) (by decide)) d_Ne_areNeighbours_26 rfl ?_
          refine sx_iload_n (pc2 := 30) hX 1 d_Ne_areNeighbours_29 rfl rfl rfl ?_
          obtain ⟨hc6, h⟩ := h
          refine sx_aalA (a := K.2.2.1 13 0 x1.toNatClampNeg) (pc2 := 31) hX (hK 12 0 0 (by decide) (by decide)) rfl rfl hc6 d_Ne_areNeighbours_30 rfl ?_
          refine sx_iload_n (pc2 := 32) hX 2 d_Ne_areNeighbours_31 rfl rfl rfl ?_
          obtain ⟨hc7, h⟩ := h
          refine sx_iald (pc2 := 33) hX (hK 13 0 x1.toNatClampNeg (by decide) (sx_lt hc6)) rfl hc7 d_Ne_areNeighbours_32 rfl ?_
          refine sx_istore_n (pc2 := 34) hX _ [(0, .ref (K.2.2.1 16 n 0)), (1, .int x1), (2, .int x2), (3, .int (σ 13 0 x1.toNatClampNeg x2.toNatClampNeg))] [1, 2, 3, 0] d_Ne_areNeighbours_33 rfl (by decide) rfl rfl rfl ?_
          refine sx_iload_n (pc2 := 35) hX 3 d_Ne_areNeighbours_34 rfl rfl rfl ?_
          refine sx_iconst (v := (-1)) (pc2 := 36) hX d_Ne_areNeighbours_35 (by decide) rfl ?_
          refine sx_icmp_eq (tgt := 77) (pc2 := 39) hX d_Ne_areNeighbours_36 (by decide) rfl (fun hc8 => ?_) (fun hc8 => ?_)
          · replace h := sx_t h hc8
            refine sx_sub [] [] rfl ?_
            exact g_Ne_areNeighbours_b77 hX hK hE hn  _ _ h
          · replace h := sx_f h hc8
            refine sx_aload_n (pc2 := 40) hX 0 d_Ne_areNeighbours_39 rfl rfl rfl ?_
            refine fg_Ne_39 (pc2 := 43) hX (hK 16 n 0 hn (by decide)) d_Ne_areNeighbours_40 rfl ?_
            refine sx_iload_n (pc2 := 44) hX 3 d_Ne_areNeighbours_43 rfl rfl rfl ?_
            obtain ⟨hc9, h⟩ := h
            refine sx_iald (pc2 := 45) hX (hK 18 n 0 hn (by decide)) rfl hc9 d_Ne_areNeighbours_44 rfl ?_
            refine sx_iconst (v := 1) (pc2 := 46) hX d_Ne_areNeighbours_45 (by decide) rfl ?_
            refine sx_icmp_ne (tgt := 77) (pc2 := 49) hX d_Ne_areNeighbours_46 (by decide) rfl (fun hc10 => ?_) (fun hc10 => ?_)
            · replace h := sx_f h hc10
              refine sx_sub [] [] rfl ?_
              exact g_Ne_areNeighbours_b77 hX hK hE hn  _ _ h
            · replace h := sx_t h hc10
              refine sx_aload_n (pc2 := 50) hX 0 d_Ne_areNeighbours_49 rfl rfl rfl ?_
              refine fg_Ne_35 (pc2 := 53) hX (hK 16 n 0 hn (by decide)) d_Ne_areNeighbours_50 rfl ?_
              refine sx_iload_n (pc2 := 54) hX 1 d_Ne_areNeighbours_53 rfl rfl rfl ?_
              obtain ⟨hc11, h⟩ := h
              refine sx_aald (a := K.2.2.1 27 n x1.toNatClampNeg) (pc2 := 55) hX (hK 17 n 0 hn (by decide)) 4 rfl rfl rfl hc11 d_Ne_areNeighbours_54 rfl ?_
              refine fg_Ne_83 (pc2 := 58) hX (hK 27 n x1.toNatClampNeg hn (sx_lt hc11)) d_Ne_areNeighbours_55 rfl ?_
              refine sx_if_eq (tgt := 77) (pc2 := 61) hX d_Ne_areNeighbours_58 (by decide) rfl (fun hc12 => ?_) (fun hc12 => ?_)
              · replace h := sx_t h hc12
                refine sx_sub [] [] rfl ?_
                exact g_Ne_areNeighbours_b77 hX hK hE hn  _ _ h
              · replace h := sx_f h hc12
                refine sx_aload_n (pc2 := 62) hX 0 d_Ne_areNeighbours_61 rfl rfl rfl ?_
                refine fg_Ne_35 (pc2 := 65) hX (hK 16 n 0 hn (by decide)) d_Ne_areNeighbours_62 rfl ?_
                refine sx_iload_n (pc2 := 66) hX 2 d_Ne_areNeighbours_65 rfl rfl rfl ?_
                obtain ⟨hc13, h⟩ := h
                refine sx_aald (a := K.2.2.1 27 n x2.toNatClampNeg) (pc2 := 67) hX (hK 17 n 0 hn (by decide)) 4 rfl rfl rfl hc13 d_Ne_areNeighbours_66 rfl ?_
                refine fg_Ne_83 (pc2 := 70) hX (hK 27 n x2.toNatClampNeg hn (sx_lt hc13)) d_Ne_areNeighbours_67 rfl ?_
                refine sx_if_eq (tgt := 77) (pc2 := 73) hX d_Ne_areNeighbours_70 (by decide) rfl (fun hc14 => ?_) (fun hc14 => ?_)
                · replace h := sx_t h hc14
                  refine sx_sub [] [] rfl ?_
                  exact g_Ne_areNeighbours_b77 hX hK hE hn  _ _ h
                · replace h := sx_f h hc14
                  refine sx_iconst (v := 1) (pc2 := 74) hX d_Ne_areNeighbours_73 (by decide) rfl ?_
                  refine sx_goto (tgt := 78) hX d_Ne_areNeighbours_74 (by decide) ?_
                  refine sx_sub [] [] rfl ?_
                  exact g_Ne_areNeighbours_b78 hX hK hE hn  1 _ _ h
        · replace h := sx_f h hc5
          refine sx_sub [] [] rfl ?_
          exact g_Ne_areNeighbours_b20 hX hK hE hn  _ _ h
theorem cl_Ne_86 {X : sx_T} {K : sx_K} {cc : ByteArray} {nL : Nat} {ret : Option FieldType} {rm : Room} {l : Launch} {pc pc2 : Nat} {lv : List (Nat × Value)} {st : List Value} {σ : sx_M} {τ : sx_L} {n : Nat} {x1 : Int32} {x2 : Int32} {Q : Int32 → sx_M → Prop} (hX : sx_C X K cc nL "SensorTree$Net" ret rm l) (hK : kx_C K) (h : wp_Ne_areNeighbours n x1 x2 σ Q) (hn : n < 25) (hR : rm_Ne_areNeighbours.frames + 1 ≤ rm.frames ∧ 8 + (4 + 11) + rm_Ne_areNeighbours.locals ≤ rm.locals) (hst : (st.map fun v => v.category).sum ≤ 8) (hd : decode cc pc = .ok (.invokevirtual 86, 3)) (hpc : pc + 3 = pc2) (kk : ∀ (r : Int32) (σ2 : sx_M) (τ2 : sx_L), Q r σ2 → sx_G X K nL pc2 lv (.int r :: st) (sx_H K σ2 τ2)) : sx_G X K nL pc lv (.int x2 :: .int x1 :: .ref (K.2.2.1 16 n 0) :: st) (sx_H K σ τ) :=
  sx_callVi (Q := fun r σ _ => Q r σ) (As := [.int x1, .int x2]) hX (c_Ne_areNeighbours hK n x1 x2 σ τ Q hn h) (hK 16 n 0 hn (by decide)) rfl rfl lk_50 lk_51 hy_Ne_areNeighbours lk_48 lk_47 lk_49 ⟨rfl, rfl⟩ hR hst rfl hd hpc kk
theorem cl_En_178 {X : sx_T} {K : sx_K} {cc : ByteArray} {nL : Nat} {ret : Option FieldType} {rm : Room} {l : Launch} {pc pc2 : Nat} {lv : List (Nat × Value)} {st : List Value} {σ : sx_M} {τ : sx_L} {n : Nat} {x1 : Int32} {x2 : Int32} {Q : Int32 → sx_M → Prop} (hX : sx_C X K cc nL "SensorTree$Engine" ret rm l) (hK : kx_C K) (h : wp_Ne_areNeighbours n x1 x2 σ Q) (hn : n < 25) (hR : rm_Ne_areNeighbours.frames + 1 ≤ rm.frames ∧ 8 + (4 + 11) + rm_Ne_areNeighbours.locals ≤ rm.locals) (hst : (st.map fun v => v.category).sum ≤ 8) (hd : decode cc pc = .ok (.invokevirtual 178, 3)) (hpc : pc + 3 = pc2) (kk : ∀ (r : Int32) (σ2 : sx_M) (τ2 : sx_L), Q r σ2 → sx_G X K nL pc2 lv (.int r :: st) (sx_H K σ2 τ2)) : sx_G X K nL pc lv (.int x2 :: .int x1 :: .ref (K.2.2.1 16 n 0) :: st) (sx_H K σ τ) :=
  sx_callVi (Q := fun r σ _ => Q r σ) (As := [.int x1, .int x2]) hX (c_Ne_areNeighbours hK n x1 x2 σ τ Q hn h) (hK 16 n 0 hn (by decide)) rfl rfl lk_50 lk_51 hy_Ne_areNeighbours lk_48 lk_47 lk_80 ⟨rfl, rfl⟩ hR hst rfl hd hpc kk
theorem cl_Jo_57 {X : sx_T} {K : sx_K} {cc : ByteArray} {nL : Nat} {ret : Option FieldType} {rm : Room} {l : Launch} {pc pc2 : Nat} {lv : List (Nat × Value)} {st : List Value} {σ : sx_M} {τ : sx_L} {n : Nat} {x1 : Int32} {x2 : Int32} {Q : Int32 → sx_M → Prop} (hX : sx_C X K cc nL "SensorTree$Journey" ret rm l) (hK : kx_C K) (h : wp_Ne_areNeighbours n x1 x2 σ Q) (hn : n < 25) (hR : rm_Ne_areNeighbours.frames + 1 ≤ rm.frames ∧ 8 + (4 + 11) + rm_Ne_areNeighbours.locals ≤ rm.locals) (hst : (st.map fun v => v.category).sum ≤ 8) (hd : decode cc pc = .ok (.invokevirtual 57, 3)) (hpc : pc + 3 = pc2) (kk : ∀ (r : Int32) (σ2 : sx_M) (τ2 : sx_L), Q r σ2 → sx_G X K nL pc2 lv (.int r :: st) (sx_H K σ2 τ2)) : sx_G X K nL pc lv (.int x2 :: .int x1 :: .ref (K.2.2.1 16 n 0) :: st) (sx_H K σ τ) :=
  sx_callVi (Q := fun r σ _ => Q r σ) (As := [.int x1, .int x2]) hX (c_Ne_areNeighbours hK n x1 x2 σ τ Q hn h) (hK 16 n 0 hn (by decide)) rfl rfl lk_50 lk_51 hy_Ne_areNeighbours lk_48 lk_47 lk_113 ⟨rfl, rfl⟩ hR hst rfl hd hpc kk
theorem cl_Tr_36 {X : sx_T} {K : sx_K} {cc : ByteArray} {nL : Nat} {ret : Option FieldType} {rm : Room} {l : Launch} {pc pc2 : Nat} {lv : List (Nat × Value)} {st : List Value} {σ : sx_M} {τ : sx_L} {n : Nat} {x1 : Int32} {x2 : Int32} {Q : Int32 → sx_M → Prop} (hX : sx_C X K cc nL "SensorTree$Truth" ret rm l) (hK : kx_C K) (h : wp_Ne_areNeighbours n x1 x2 σ Q) (hn : n < 25) (hR : rm_Ne_areNeighbours.frames + 1 ≤ rm.frames ∧ 8 + (4 + 11) + rm_Ne_areNeighbours.locals ≤ rm.locals) (hst : (st.map fun v => v.category).sum ≤ 8) (hd : decode cc pc = .ok (.invokevirtual 36, 3)) (hpc : pc + 3 = pc2) (kk : ∀ (r : Int32) (σ2 : sx_M) (τ2 : sx_L), Q r σ2 → sx_G X K nL pc2 lv (.int r :: st) (sx_H K σ2 τ2)) : sx_G X K nL pc lv (.int x2 :: .int x1 :: .ref (K.2.2.1 16 n 0) :: st) (sx_H K σ τ) :=
  sx_callVi (Q := fun r σ _ => Q r σ) (As := [.int x1, .int x2]) hX (c_Ne_areNeighbours hK n x1 x2 σ τ Q hn h) (hK 16 n 0 hn (by decide)) rfl rfl lk_50 lk_51 hy_Ne_areNeighbours lk_48 lk_47 lk_234 ⟨rfl, rfl⟩ hR hst rfl hd hpc kk
theorem cl_St_215 {X : sx_T} {K : sx_K} {cc : ByteArray} {nL : Nat} {ret : Option FieldType} {rm : Room} {l : Launch} {pc pc2 : Nat} {lv : List (Nat × Value)} {st : List Value} {σ : sx_M} {τ : sx_L} {n : Nat} {x1 : Int32} {x2 : Int32} {Q : Int32 → sx_M → Prop} (hX : sx_C X K cc nL "SensorTree" ret rm l) (hK : kx_C K) (h : wp_Ne_areNeighbours n x1 x2 σ Q) (hn : n < 25) (hR : rm_Ne_areNeighbours.frames + 1 ≤ rm.frames ∧ 8 + (4 + 11) + rm_Ne_areNeighbours.locals ≤ rm.locals) (hst : (st.map fun v => v.category).sum ≤ 8) (hd : decode cc pc = .ok (.invokevirtual 215, 3)) (hpc : pc + 3 = pc2) (kk : ∀ (r : Int32) (σ2 : sx_M) (τ2 : sx_L), Q r σ2 → sx_G X K nL pc2 lv (.int r :: st) (sx_H K σ2 τ2)) : sx_G X K nL pc lv (.int x2 :: .int x1 :: .ref (K.2.2.1 16 n 0) :: st) (sx_H K σ τ) :=
  sx_callVi (Q := fun r σ _ => Q r σ) (As := [.int x1, .int x2]) hX (c_Ne_areNeighbours hK n x1 x2 σ τ Q hn h) (hK 16 n 0 hn (by decide)) rfl rfl lk_50 lk_51 hy_Ne_areNeighbours lk_48 lk_47 lk_311 ⟨rfl, rfl⟩ hR hst rfl hd hpc kk
def y_En_isDrowned : MethodName := ⟨"SensorTree$Engine", "isDrowned", "(II)Z"⟩
theorem hy_En_isDrowned : y_En_isDrowned.cls ≠ "java/lang/invoke/MethodHandle" ∧ y_En_isDrowned.cls ≠ "java/lang/invoke/VarHandle" ∧ (parseMethodDescriptor y_En_isDrowned.desc).map (fun d => d.parameters.length) = some 2 := by decide +kernel
theorem d_En_isDrowned_0 : decode prog_2_method_11_code 0 = .ok (.ldc 177, 2) := by decide +kernel
theorem d_En_isDrowned_2 : decode prog_2_method_11_code 2 = .ok (.bipush 64, 2) := by decide +kernel
theorem d_En_isDrowned_4 : decode prog_2_method_11_code 4 = .ok (.aload_n 0, 1) := by decide +kernel
theorem d_En_isDrowned_5 : decode prog_2_method_11_code 5 = .ok (.getfield 22, 3) := by decide +kernel
theorem d_En_isDrowned_8 : decode prog_2_method_11_code 8 = .ok (.getfield 33, 3) := by decide +kernel
theorem d_En_isDrowned_11 : decode prog_2_method_11_code 11 = .ok (.imul, 1) := by decide +kernel
theorem d_En_isDrowned_12 : decode prog_2_method_11_code 12 = .ok (.iadd, 1) := by decide +kernel
theorem d_En_isDrowned_13 : decode prog_2_method_11_code 13 = .ok (.bipush 8, 2) := by decide +kernel
theorem d_En_isDrowned_15 : decode prog_2_method_11_code 15 = .ok (.iload_n 1, 1) := by decide +kernel
theorem d_En_isDrowned_16 : decode prog_2_method_11_code 16 = .ok (.imul, 1) := by decide +kernel
theorem d_En_isDrowned_17 : decode prog_2_method_11_code 17 = .ok (.iadd, 1) := by decide +kernel
theorem d_En_isDrowned_18 : decode prog_2_method_11_code 18 = .ok (.iload_n 2, 1) := by decide +kernel
theorem d_En_isDrowned_19 : decode prog_2_method_11_code 19 = .ok (.iadd, 1) := by decide +kernel
theorem d_En_isDrowned_20 : decode prog_2_method_11_code 20 = .ok (.istore_n 3, 1) := by decide +kernel
theorem d_En_isDrowned_21 : decode prog_2_method_11_code 21 = .ok (.aload_n 0, 1) := by decide +kernel
theorem d_En_isDrowned_22 : decode prog_2_method_11_code 22 = .ok (.bipush 100, 2) := by decide +kernel
theorem d_En_isDrowned_24 : decode prog_2_method_11_code 24 = .ok (.iload_n 3, 1) := by decide +kernel
theorem d_En_isDrowned_25 : decode prog_2_method_11_code 25 = .ok (.invokevirtual 109, 3) := by decide +kernel
theorem d_En_isDrowned_28 : decode prog_2_method_11_code 28 = .ok (.aload_n 0, 1) := by decide +kernel
theorem d_En_isDrowned_29 : decode prog_2_method_11_code 29 = .ok (.getfield 32, 3) := by decide +kernel
theorem d_En_isDrowned_32 : decode prog_2_method_11_code 32 = .ok (.getfield 93, 3) := by decide +kernel
theorem d_En_isDrowned_35 : decode prog_2_method_11_code 35 = .ok (.bipush 7, 2) := by decide +kernel
theorem d_En_isDrowned_37 : decode prog_2_method_11_code 37 = .ok (.iaload, 1) := by decide +kernel
theorem d_En_isDrowned_38 : decode prog_2_method_11_code 38 = .ok (.if_icmp .ge 7, 3) := by decide +kernel
theorem d_En_isDrowned_41 : decode prog_2_method_11_code 41 = .ok (.iconst 1, 1) := by decide +kernel
theorem d_En_isDrowned_42 : decode prog_2_method_11_code 42 = .ok (.goto 4, 3) := by decide +kernel
theorem d_En_isDrowned_45 : decode prog_2_method_11_code 45 = .ok (.iconst 0, 1) := by decide +kernel
theorem d_En_isDrowned_46 : decode prog_2_method_11_code 46 = .ok (.ireturn, 1) := by decide +kernel
def wp_En_isDrowned_b46 (n : Nat)  (Q : Int32 → sx_M → Prop) (w0 : Int32) (σ : sx_M) : Prop := (w0 = 0 ∨ w0 = 1) ∧ (Q w0 σ)
def wp_En_isDrowned (n : Nat) (x1 : Int32) (x2 : Int32) (σ : sx_M) (Q : Int32 → sx_M → Prop) : Prop := wp_En_lot n (100 : Int32) (((1000000 + (64 * (σ 16 n 0 1))) + (8 * x1)) + x2) σ (fun r2 σ2 => vp_in 7 9 ∧ (if σ2 14 0 0 (7 : Int32).toNatClampNeg ≤ r2 then (wp_En_isDrowned_b46 n Q 0 σ2) else (wp_En_isDrowned_b46 n Q 1 σ2)))
abbrev rm_En_isDrowned : Room := { frames := 1, cells := 0, slots := 0, locals := 24 }
set_option maxRecDepth 100000 in
set_option maxHeartbeats 4000000 in
theorem g_En_isDrowned_b46 {l : Launch} {K : sx_K} {X : sx_T} {n : Nat}  {Q : Int32 → sx_M → Prop} (hX : sx_C X K prog_2_method_11_code 4 "SensorTree$Engine" (some .boolean) rm_En_isDrowned l) (hK : kx_C K) (hE : sx_E X K (sx_Qi K (fun r σ _ => Q r σ))) (hn : n < 2) (w0 : Int32) (σ : sx_M) (τ : sx_L)  (h : wp_En_isDrowned_b46 n Q  w0 σ) : sx_G X K 4 46 [] [.int w0] (sx_H K σ τ) := by
  unfold wp_En_isDrowned_b46 at h
  obtain ⟨hc1, h⟩ := h
  exact sx_zret hX hE hc1 h d_En_isDrowned_46
set_option maxRecDepth 100000 in
set_option maxHeartbeats 4000000 in
theorem c_En_isDrowned {l : Launch} {K : sx_K} (hK : kx_C K) (n : Nat) (x1 : Int32) (x2 : Int32) (σ : sx_M) (τ : sx_L) (Q : Int32 → sx_M → Prop) (hn : n < 2) (h : wp_En_isDrowned n x1 x2 σ Q) : Met l y_En_isDrowned (sx_wd y_En_isDrowned prog_2_method_11_code 4 (some .boolean)) rm_En_isDrowned (sx_Pc K [.ref (K.2.2.1 31 n 0), .int x1, .int x2] σ τ) (sx_Qi K (fun r σ _ => Q r σ)) 0 0 (sx_A K) := by
  refine sx_met (by decide) (Nat.le_of_ble_eq_true rfl) (fun X hX hE => ?_)
  replace hX : sx_C X K prog_2_method_11_code 4 "SensorTree$Engine" (some .boolean) rm_En_isDrowned l := hX
  show sx_G X K 4 0 [(0, .ref (K.2.2.1 31 n 0)), (1, .int x1), (2, .int x2)] [] (sx_H K σ τ)
  unfold wp_En_isDrowned at h
  refine sx_ldc (v := 1000000) (pc2 := 2) hX lk_2 d_En_isDrowned_0 rfl ?_
  refine sx_bipush (v := 64) (pc2 := 4) hX d_En_isDrowned_2 (by decide) rfl ?_
  refine sx_aload_n (pc2 := 5) hX 0 d_En_isDrowned_4 rfl rfl rfl ?_
  refine fg_En_22 (pc2 := 8) hX (hK 31 n 0 hn (by decide)) d_En_isDrowned_5 rfl ?_
  refine fg_En_33 (pc2 := 11) hX (hK 16 n 0 (sx_w2 hn) (by decide)) d_En_isDrowned_8 rfl ?_
  refine sx_imul (pc2 := 12) hX d_En_isDrowned_11 rfl ?_
  refine sx_iadd (pc2 := 13) hX d_En_isDrowned_12 rfl ?_
  refine sx_bipush (v := 8) (pc2 := 15) hX d_En_isDrowned_13 (by decide) rfl ?_
  refine sx_iload_n (pc2 := 16) hX 1 d_En_isDrowned_15 rfl rfl rfl ?_
  refine sx_imul (pc2 := 17) hX d_En_isDrowned_16 rfl ?_
  refine sx_iadd (pc2 := 18) hX d_En_isDrowned_17 rfl ?_
  refine sx_iload_n (pc2 := 19) hX 2 d_En_isDrowned_18 rfl rfl rfl ?_
  refine sx_iadd (pc2 := 20) hX d_En_isDrowned_19 rfl ?_
  refine sx_istore_n (pc2 := 21) hX _ [(0, .ref (K.2.2.1 31 n 0)), (1, .int x1), (2, .int x2), (3, .int (((1000000 + (64 * (σ 16 n 0 1))) + (8 * x1)) + x2))] [1, 2, 3, 0] d_En_isDrowned_20 rfl (by decide) rfl rfl rfl ?_
  refine sx_aload_n (pc2 := 22) hX 0 d_En_isDrowned_21 rfl rfl rfl ?_
  refine sx_bipush (v := 100) (pc2 := 24) hX d_En_isDrowned_22 (by decide) rfl ?_
  refine sx_iload_n (pc2 := 25) hX 3 d_En_isDrowned_24 rfl rfl rfl ?_
  refine cl_En_109 (pc2 := 28) hX hK h hn ⟨Nat.le_of_ble_eq_true rfl, Nat.le_of_ble_eq_true rfl⟩ (Nat.le_of_ble_eq_true rfl) d_En_isDrowned_25 rfl (fun r2 σ2 τ2 h => ?_)
  refine sx_aload_n (pc2 := 29) hX 0 d_En_isDrowned_28 rfl rfl rfl ?_
  refine fg_En_32 (pc2 := 32) hX (hK 31 n 0 hn (by decide)) d_En_isDrowned_29 rfl ?_
  refine fg_En_93 (pc2 := 35) hX (hK 8 0 0 (by decide) (by decide)) d_En_isDrowned_32 rfl ?_
  refine sx_bipush (v := 7) (pc2 := 37) hX d_En_isDrowned_35 (by decide) rfl ?_
  obtain ⟨hc3, h⟩ := h
  refine sx_iald (pc2 := 38) hX (hK 14 0 0 (by decide) (by decide)) rfl hc3 d_En_isDrowned_37 rfl ?_
  refine sx_icmp_ge (tgt := 45) (pc2 := 41) hX d_En_isDrowned_38 (by decide) rfl (fun hc4 => ?_) (fun hc4 => ?_)
  · replace h := sx_t h hc4
    refine sx_iconst (v := 0) (pc2 := 46) hX d_En_isDrowned_45 (by decide) rfl ?_
    refine sx_sub [] [] rfl ?_
    exact g_En_isDrowned_b46 hX hK hE hn  0 _ _ h
  · replace h := sx_f h hc4
    refine sx_iconst (v := 1) (pc2 := 42) hX d_En_isDrowned_41 (by decide) rfl ?_
    refine sx_goto (tgt := 46) hX d_En_isDrowned_42 (by decide) ?_
    refine sx_sub [] [] rfl ?_
    exact g_En_isDrowned_b46 hX hK hE hn  1 _ _ h
theorem cl_En_182 {X : sx_T} {K : sx_K} {cc : ByteArray} {nL : Nat} {ret : Option FieldType} {rm : Room} {l : Launch} {pc pc2 : Nat} {lv : List (Nat × Value)} {st : List Value} {σ : sx_M} {τ : sx_L} {n : Nat} {x1 : Int32} {x2 : Int32} {Q : Int32 → sx_M → Prop} (hX : sx_C X K cc nL "SensorTree$Engine" ret rm l) (hK : kx_C K) (h : wp_En_isDrowned n x1 x2 σ Q) (hn : n < 2) (hR : rm_En_isDrowned.frames + 1 ≤ rm.frames ∧ 8 + (4 + 11) + rm_En_isDrowned.locals ≤ rm.locals) (hst : (st.map fun v => v.category).sum ≤ 8) (hd : decode cc pc = .ok (.invokevirtual 182, 3)) (hpc : pc + 3 = pc2) (kk : ∀ (r : Int32) (σ2 : sx_M) (τ2 : sx_L), Q r σ2 → sx_G X K nL pc2 lv (.int r :: st) (sx_H K σ2 τ2)) : sx_G X K nL pc lv (.int x2 :: .int x1 :: .ref (K.2.2.1 31 n 0) :: st) (sx_H K σ τ) :=
  sx_callVi (Q := fun r σ _ => Q r σ) (As := [.int x1, .int x2]) hX (c_En_isDrowned hK n x1 x2 σ τ Q hn h) (hK 31 n 0 hn (by decide)) rfl rfl lk_83 ls_16 hy_En_isDrowned lk_81 lk_27 lk_82 ⟨rfl, rfl⟩ hR hst rfl hd hpc kk
def y_En_hearAdvert : MethodName := ⟨"SensorTree$Engine", "hearAdvert", "(IIII)V"⟩
theorem hy_En_hearAdvert : y_En_hearAdvert.cls ≠ "java/lang/invoke/MethodHandle" ∧ y_En_hearAdvert.cls ≠ "java/lang/invoke/VarHandle" ∧ (parseMethodDescriptor y_En_hearAdvert.desc).map (fun d => d.parameters.length) = some 4 := by decide +kernel
theorem d_En_hearAdvert_0 : decode prog_2_method_13_code 0 = .ok (.aload_n 0, 1) := by decide +kernel
theorem d_En_hearAdvert_1 : decode prog_2_method_13_code 1 = .ok (.getfield 22, 3) := by decide +kernel
theorem d_En_hearAdvert_4 : decode prog_2_method_13_code 4 = .ok (.getfield 78, 3) := by decide +kernel
theorem d_En_hearAdvert_7 : decode prog_2_method_13_code 7 = .ok (.iload_n 2, 1) := by decide +kernel
theorem d_En_hearAdvert_8 : decode prog_2_method_13_code 8 = .ok (.aaload, 1) := by decide +kernel
theorem d_En_hearAdvert_9 : decode prog_2_method_13_code 9 = .ok (.astore 5, 2) := by decide +kernel
theorem d_En_hearAdvert_11 : decode prog_2_method_13_code 11 = .ok (.iload_n 3, 1) := by decide +kernel
theorem d_En_hearAdvert_12 : decode prog_2_method_13_code 12 = .ok (.aload 5, 2) := by decide +kernel
theorem d_En_hearAdvert_14 : decode prog_2_method_13_code 14 = .ok (.getfield 153, 3) := by decide +kernel
theorem d_En_hearAdvert_17 : decode prog_2_method_13_code 17 = .ok (.if_icmp .ge 9, 3) := by decide +kernel
theorem d_En_hearAdvert_20 : decode prog_2_method_13_code 20 = .ok (.aload_n 0, 1) := by decide +kernel
theorem d_En_hearAdvert_21 : decode prog_2_method_13_code 21 = .ok (.iload_n 2, 1) := by decide +kernel
theorem d_En_hearAdvert_22 : decode prog_2_method_13_code 22 = .ok (.invokevirtual 189, 3) := by decide +kernel
theorem d_En_hearAdvert_25 : decode prog_2_method_13_code 25 = .ok (.return_, 1) := by decide +kernel
theorem d_En_hearAdvert_26 : decode prog_2_method_13_code 26 = .ok (.iload_n 3, 1) := by decide +kernel
theorem d_En_hearAdvert_27 : decode prog_2_method_13_code 27 = .ok (.aload 5, 2) := by decide +kernel
theorem d_En_hearAdvert_29 : decode prog_2_method_13_code 29 = .ok (.getfield 153, 3) := by decide +kernel
theorem d_En_hearAdvert_32 : decode prog_2_method_13_code 32 = .ok (.if_icmp .le 22, 3) := by decide +kernel
theorem d_En_hearAdvert_35 : decode prog_2_method_13_code 35 = .ok (.aload 5, 2) := by decide +kernel
theorem d_En_hearAdvert_37 : decode prog_2_method_13_code 37 = .ok (.iload_n 3, 1) := by decide +kernel
theorem d_En_hearAdvert_38 : decode prog_2_method_13_code 38 = .ok (.putfield 153, 3) := by decide +kernel
theorem d_En_hearAdvert_41 : decode prog_2_method_13_code 41 = .ok (.aload 5, 2) := by decide +kernel
theorem d_En_hearAdvert_43 : decode prog_2_method_13_code 43 = .ok (.sipush 9999, 3) := by decide +kernel
theorem d_En_hearAdvert_46 : decode prog_2_method_13_code 46 = .ok (.putfield 192, 3) := by decide +kernel
theorem d_En_hearAdvert_49 : decode prog_2_method_13_code 49 = .ok (.aload 5, 2) := by decide +kernel
theorem d_En_hearAdvert_51 : decode prog_2_method_13_code 51 = .ok (.invokevirtual 195, 3) := by decide +kernel
theorem d_En_hearAdvert_54 : decode prog_2_method_13_code 54 = .ok (.iload 4, 2) := by decide +kernel
theorem d_En_hearAdvert_56 : decode prog_2_method_13_code 56 = .ok (.aload 5, 2) := by decide +kernel
theorem d_En_hearAdvert_58 : decode prog_2_method_13_code 58 = .ok (.getfield 198, 3) := by decide +kernel
theorem d_En_hearAdvert_61 : decode prog_2_method_13_code 61 = .ok (.iload_n 1, 1) := by decide +kernel
theorem d_En_hearAdvert_62 : decode prog_2_method_13_code 62 = .ok (.iaload, 1) := by decide +kernel
theorem d_En_hearAdvert_63 : decode prog_2_method_13_code 63 = .ok (.if_icmp .ne 17, 3) := by decide +kernel
theorem d_En_hearAdvert_66 : decode prog_2_method_13_code 66 = .ok (.aload 5, 2) := by decide +kernel
theorem d_En_hearAdvert_68 : decode prog_2_method_13_code 68 = .ok (.dup, 1) := by decide +kernel
theorem d_En_hearAdvert_69 : decode prog_2_method_13_code 69 = .ok (.getfield 106, 3) := by decide +kernel
theorem d_En_hearAdvert_72 : decode prog_2_method_13_code 72 = .ok (.iconst 1, 1) := by decide +kernel
theorem d_En_hearAdvert_73 : decode prog_2_method_13_code 73 = .ok (.iadd, 1) := by decide +kernel
theorem d_En_hearAdvert_74 : decode prog_2_method_13_code 74 = .ok (.putfield 106, 3) := by decide +kernel
theorem d_En_hearAdvert_77 : decode prog_2_method_13_code 77 = .ok (.goto 8, 3) := by decide +kernel
theorem d_En_hearAdvert_80 : decode prog_2_method_13_code 80 = .ok (.aload_n 0, 1) := by decide +kernel
theorem d_En_hearAdvert_81 : decode prog_2_method_13_code 81 = .ok (.iload_n 2, 1) := by decide +kernel
theorem d_En_hearAdvert_82 : decode prog_2_method_13_code 82 = .ok (.invokevirtual 189, 3) := by decide +kernel
theorem d_En_hearAdvert_85 : decode prog_2_method_13_code 85 = .ok (.aload 5, 2) := by decide +kernel
theorem d_En_hearAdvert_87 : decode prog_2_method_13_code 87 = .ok (.getfield 198, 3) := by decide +kernel
theorem d_En_hearAdvert_90 : decode prog_2_method_13_code 90 = .ok (.iload_n 1, 1) := by decide +kernel
theorem d_En_hearAdvert_91 : decode prog_2_method_13_code 91 = .ok (.iload 4, 2) := by decide +kernel
theorem d_En_hearAdvert_93 : decode prog_2_method_13_code 93 = .ok (.iastore, 1) := by decide +kernel
theorem d_En_hearAdvert_94 : decode prog_2_method_13_code 94 = .ok (.return_, 1) := by decide +kernel
def wp_En_hearAdvert_b85 (n : Nat)  (Q : sx_M → Prop) (v1 : Int32) (v4 : Int32) (v5n : Nat) (v5p : Nat) (σ : sx_M) : Prop := vp_in v1 7 ∧ (∀ σ2 : sx_M, σ2 = sx_u σ 28 v5n v5p v1.toNatClampNeg v4 → (Q σ2))
def wp_En_hearAdvert_b54 (n : Nat)  (Q : sx_M → Prop) (v1 : Int32) (v2 : Int32) (v4 : Int32) (v5n : Nat) (v5p : Nat) (σ : sx_M) : Prop := vp_in v1 7 ∧ (if v4 = σ 28 v5n v5p v1.toNatClampNeg then (∀ σ6 : sx_M, σ6 = sx_u σ 27 v5n v5p 9 ((σ 27 v5n v5p 9) + 1) → (wp_En_hearAdvert_b85 n Q v1 v4 v5n v5p σ6)) else (wp_En_beginAnew n v2 σ (fun σ5 => wp_En_hearAdvert_b85 n Q v1 v4 v5n v5p σ5)))
def wp_En_hearAdvert (n : Nat) (x1 : Int32) (x2 : Int32) (x3 : Int32) (x4 : Int32) (σ : sx_M) (Q : sx_M → Prop) : Prop := vp_in x2 7 ∧ (if σ 27 n x2.toNatClampNeg 1 ≤ x3 then (if x3 ≤ σ 27 n x2.toNatClampNeg 1 then (wp_En_hearAdvert_b54 n Q x1 x2 x4 n x2.toNatClampNeg σ) else (∀ σ10 : sx_M, σ10 = sx_u σ 27 n x2.toNatClampNeg 1 x3 → (∀ σ11 : sx_M, σ11 = sx_u σ10 27 n x2.toNatClampNeg 4 9999 → (wp_Po_forgetHeard n x2.toNatClampNeg σ11 (fun σ12 => wp_En_hearAdvert_b54 n Q x1 x2 x4 n x2.toNatClampNeg σ12))))) else (wp_En_beginAnew n x2 σ (fun σ13 => Q σ13)))
abbrev rm_En_hearAdvert : Room := { frames := 3, cells := 0, slots := 0, locals := 70 }
set_option maxRecDepth 100000 in
set_option maxHeartbeats 4000000 in
theorem g_En_hearAdvert_b85 {l : Launch} {K : sx_K} {X : sx_T} {n : Nat}  {Q : sx_M → Prop} (hX : sx_C X K prog_2_method_13_code 6 "SensorTree$Engine" none rm_En_hearAdvert l) (hK : kx_C K) (hE : sx_E X K (sx_Qv K (fun σ _ => Q σ))) (hn : n < 2) (v1 : Int32) (v4 : Int32) (v5n : Nat) (v5p : Nat) (σ : sx_M) (τ : sx_L) (hv5n : v5n < 25) (hv5p : v5p < 7) (h : wp_En_hearAdvert_b85 n Q  v1 v4 v5n v5p σ) : sx_G X K 6 85 [(1, .int v1), (4, .int v4), (5, .ref (K.2.2.1 27 v5n v5p))] [] (sx_H K σ τ) := by
  unfold wp_En_hearAdvert_b85 at h
  refine sx_aload (pc2 := 87) hX 2 d_En_hearAdvert_85 rfl rfl ?_
  refine fg_En_198 (pc2 := 90) hX (hK 27 v5n v5p hv5n hv5p) d_En_hearAdvert_87 rfl ?_
  refine sx_iload_n (pc2 := 91) hX 0 d_En_hearAdvert_90 rfl rfl rfl ?_
  refine sx_iload (pc2 := 93) hX 1 d_En_hearAdvert_91 rfl rfl ?_
  obtain ⟨hc1, h⟩ := h
  refine sx_iast (pc2 := 94) hX (hK 28 v5n v5p hv5n hv5p) (fun _ => rfl) hc1 d_En_hearAdvert_93 rfl ?_
  refine sx_nm (fun σ2 e2 => ?_)
  replace h := h σ2 e2
  exact sx_vret hX hE h d_En_hearAdvert_94
set_option maxRecDepth 100000 in
set_option maxHeartbeats 4000000 in
theorem g_En_hearAdvert_b54 {l : Launch} {K : sx_K} {X : sx_T} {n : Nat}  {Q : sx_M → Prop} (hX : sx_C X K prog_2_method_13_code 6 "SensorTree$Engine" none rm_En_hearAdvert l) (hK : kx_C K) (hE : sx_E X K (sx_Qv K (fun σ _ => Q σ))) (hn : n < 2) (v1 : Int32) (v2 : Int32) (v4 : Int32) (v5n : Nat) (v5p : Nat) (σ : sx_M) (τ : sx_L) (hv5n : v5n < 25) (hv5p : v5p < 7) (h : wp_En_hearAdvert_b54 n Q  v1 v2 v4 v5n v5p σ) : sx_G X K 6 54 [(0, .ref (K.2.2.1 31 n 0)), (1, .int v1), (2, .int v2), (4, .int v4), (5, .ref (K.2.2.1 27 v5n v5p))] [] (sx_H K σ τ) := by
  unfold wp_En_hearAdvert_b54 at h
  refine sx_iload (pc2 := 56) hX 3 d_En_hearAdvert_54 rfl rfl ?_
  refine sx_aload (pc2 := 58) hX 4 d_En_hearAdvert_56 rfl rfl ?_
  refine fg_En_198 (pc2 := 61) hX (hK 27 v5n v5p hv5n hv5p) d_En_hearAdvert_58 rfl ?_
  refine sx_iload_n (pc2 := 62) hX 1 d_En_hearAdvert_61 rfl rfl rfl ?_
  obtain ⟨hc3, h⟩ := h
  refine sx_iald (pc2 := 63) hX (hK 28 v5n v5p hv5n hv5p) rfl hc3 d_En_hearAdvert_62 rfl ?_
  refine sx_icmp_ne (tgt := 80) (pc2 := 66) hX d_En_hearAdvert_63 (by decide) rfl (fun hc4 => ?_) (fun hc4 => ?_)
  · replace h := sx_f h hc4
    refine sx_aload_n (pc2 := 81) hX 0 d_En_hearAdvert_80 rfl rfl rfl ?_
    refine sx_iload_n (pc2 := 82) hX 2 d_En_hearAdvert_81 rfl rfl rfl ?_
    refine cl_En_189 (pc2 := 85) hX hK h hn ⟨Nat.le_of_ble_eq_true rfl, Nat.le_of_ble_eq_true rfl⟩ (Nat.le_of_ble_eq_true rfl) d_En_hearAdvert_82 rfl (fun σ5 τ5 h => ?_)
    refine sx_sub [(1, .int v1), (4, .int v4), (5, .ref (K.2.2.1 27 v5n v5p))] [1, 3, 4] rfl ?_
    exact g_En_hearAdvert_b85 hX hK hE hn  v1 v4 v5n v5p _ _ hv5n hv5p h
  · replace h := sx_t h hc4
    refine sx_aload (pc2 := 68) hX 4 d_En_hearAdvert_66 rfl rfl ?_
    refine sx_dup (pc2 := 69) hX d_En_hearAdvert_68 rfl rfl ?_
    refine fg_En_106 (pc2 := 72) hX (hK 27 v5n v5p hv5n hv5p) d_En_hearAdvert_69 rfl ?_
    refine sx_iconst (v := 1) (pc2 := 73) hX d_En_hearAdvert_72 (by decide) rfl ?_
    refine sx_iadd (pc2 := 74) hX d_En_hearAdvert_73 rfl ?_
    refine fp_En_106 (pc2 := 77) hX (hK 27 v5n v5p hv5n hv5p) d_En_hearAdvert_74 rfl ?_
    refine sx_nm (fun σ6 e6 => ?_)
    replace h := h σ6 e6
    refine sx_goto (tgt := 85) hX d_En_hearAdvert_77 (by decide) ?_
    refine sx_sub [(1, .int v1), (4, .int v4), (5, .ref (K.2.2.1 27 v5n v5p))] [1, 3, 4] rfl ?_
    exact g_En_hearAdvert_b85 hX hK hE hn  v1 v4 v5n v5p _ _ hv5n hv5p h
set_option maxRecDepth 100000 in
set_option maxHeartbeats 4000000 in
theorem c_En_hearAdvert {l : Launch} {K : sx_K} (hK : kx_C K) (n : Nat) (x1 : Int32) (x2 : Int32) (x3 : Int32) (x4 : Int32) (σ : sx_M) (τ : sx_L) (Q : sx_M → Prop) (hn : n < 2) (h : wp_En_hearAdvert n x1 x2 x3 x4 σ Q) : Met l y_En_hearAdvert (sx_wd y_En_hearAdvert prog_2_method_13_code 6 none) rm_En_hearAdvert (sx_Pc K [.ref (K.2.2.1 31 n 0), .int x1, .int x2, .int x3, .int x4] σ τ) (sx_Qv K (fun σ _ => Q σ)) 0 0 (sx_A K) := by
  refine sx_met (by decide) (Nat.le_of_ble_eq_true rfl) (fun X hX hE => ?_)
  replace hX : sx_C X K prog_2_method_13_code 6 "SensorTree$Engine" none rm_En_hearAdvert l := hX
  show sx_G X K 6 0 [(0, .ref (K.2.2.1 31 n 0)), (1, .int x1), (2, .int x2), (3, .int x3), (4, .int x4)] [] (sx_H K σ τ)
  unfold wp_En_hearAdvert at h
  refine sx_aload_n (pc2 := 1) hX 0 d_En_hearAdvert_0 rfl rfl rfl ?_
  refine fg_En_22 (pc2 := 4) hX (hK 31 n 0 hn (by decide)) d_En_hearAdvert_1 rfl ?_
  refine fg_En_78 (pc2 := 7) hX (hK 16 n 0 (sx_w2 hn) (by decide)) d_En_hearAdvert_4 rfl ?_
  refine sx_iload_n (pc2 := 8) hX 2 d_En_hearAdvert_7 rfl rfl rfl ?_
  obtain ⟨hc7, h⟩ := h
  refine sx_aald (a := K.2.2.1 27 n x2.toNatClampNeg) (pc2 := 9) hX (hK 17 n 0 (sx_w2 hn) (by decide)) 4 rfl rfl rfl hc7 d_En_hearAdvert_8 rfl ?_
  refine sx_astore (pc2 := 11) hX _ [(0, .ref (K.2.2.1 31 n 0)), (1, .int x1), (2, .int x2), (3, .int x3), (4, .int x4), (5, .ref (K.2.2.1 27 n x2.toNatClampNeg))] [1, 2, 3, 4, 5, 0] d_En_hearAdvert_9 (by decide) rfl rfl rfl ?_
  refine sx_iload_n (pc2 := 12) hX 3 d_En_hearAdvert_11 rfl rfl rfl ?_
  refine sx_aload (pc2 := 14) hX 5 d_En_hearAdvert_12 rfl rfl ?_
  refine fg_En_153 (pc2 := 17) hX (hK 27 n x2.toNatClampNeg (sx_w2 hn) (sx_lt hc7)) d_En_hearAdvert_14 rfl ?_
  refine sx_icmp_ge (tgt := 26) (pc2 := 20) hX d_En_hearAdvert_17 (by decide) rfl (fun hc8 => ?_) (fun hc8 => ?_)
  · replace h := sx_t h hc8
    refine sx_iload_n (pc2 := 27) hX 3 d_En_hearAdvert_26 rfl rfl rfl ?_
    refine sx_aload (pc2 := 29) hX 5 d_En_hearAdvert_27 rfl rfl ?_
    refine fg_En_153 (pc2 := 32) hX (hK 27 n x2.toNatClampNeg (sx_w2 hn) (sx_lt hc7)) d_En_hearAdvert_29 rfl ?_
    refine sx_icmp_le (tgt := 54) (pc2 := 35) hX d_En_hearAdvert_32 (by decide) rfl (fun hc9 => ?_) (fun hc9 => ?_)
    · replace h := sx_t h hc9
      refine sx_sub [(0, .ref (K.2.2.1 31 n 0)), (1, .int x1), (2, .int x2), (4, .int x4), (5, .ref (K.2.2.1 27 n x2.toNatClampNeg))] [0, 1, 2, 4, 5] rfl ?_
      exact g_En_hearAdvert_b54 hX hK hE hn  x1 x2 x4 n x2.toNatClampNeg _ _ (sx_w2 hn) (sx_lt hc7) h
    · replace h := sx_f h hc9
      refine sx_aload (pc2 := 37) hX 5 d_En_hearAdvert_35 rfl rfl ?_
      refine sx_iload_n (pc2 := 38) hX 3 d_En_hearAdvert_37 rfl rfl rfl ?_
      refine fp_En_153 (pc2 := 41) hX (hK 27 n x2.toNatClampNeg (sx_w2 hn) (sx_lt hc7)) d_En_hearAdvert_38 rfl ?_
      refine sx_nm (fun σ10 e10 => ?_)
      replace h := h σ10 e10
      refine sx_aload (pc2 := 43) hX 5 d_En_hearAdvert_41 rfl rfl ?_
      refine sx_sipush (v := 9999) (pc2 := 46) hX d_En_hearAdvert_43 (by decide) rfl ?_
      refine fp_En_192 (pc2 := 49) hX (hK 27 n x2.toNatClampNeg (sx_w2 hn) (sx_lt hc7)) d_En_hearAdvert_46 rfl ?_
      refine sx_nm (fun σ11 e11 => ?_)
      replace h := h σ11 e11
      refine sx_aload (pc2 := 51) hX 5 d_En_hearAdvert_49 rfl rfl ?_
      refine cl_En_195 (pc2 := 54) hX hK h (sx_w2 hn) (sx_lt hc7) ⟨Nat.le_of_ble_eq_true rfl, Nat.le_of_ble_eq_true rfl⟩ (Nat.le_of_ble_eq_true rfl) d_En_hearAdvert_51 rfl (fun σ12 τ12 h => ?_)
      refine sx_sub [(0, .ref (K.2.2.1 31 n 0)), (1, .int x1), (2, .int x2), (4, .int x4), (5, .ref (K.2.2.1 27 n x2.toNatClampNeg))] [0, 1, 2, 4, 5] rfl ?_
      exact g_En_hearAdvert_b54 hX hK hE hn  x1 x2 x4 n x2.toNatClampNeg _ _ (sx_w2 hn) (sx_lt hc7) h
  · replace h := sx_f h hc8
    refine sx_aload_n (pc2 := 21) hX 0 d_En_hearAdvert_20 rfl rfl rfl ?_
    refine sx_iload_n (pc2 := 22) hX 2 d_En_hearAdvert_21 rfl rfl rfl ?_
    refine cl_En_189 (pc2 := 25) hX hK h hn ⟨Nat.le_of_ble_eq_true rfl, Nat.le_of_ble_eq_true rfl⟩ (Nat.le_of_ble_eq_true rfl) d_En_hearAdvert_22 rfl (fun σ13 τ13 h => ?_)
    exact sx_vret hX hE h d_En_hearAdvert_25
theorem cl_En_185 {X : sx_T} {K : sx_K} {cc : ByteArray} {nL : Nat} {ret : Option FieldType} {rm : Room} {l : Launch} {pc pc2 : Nat} {lv : List (Nat × Value)} {st : List Value} {σ : sx_M} {τ : sx_L} {n : Nat} {x1 : Int32} {x2 : Int32} {x3 : Int32} {x4 : Int32} {Q : sx_M → Prop} (hX : sx_C X K cc nL "SensorTree$Engine" ret rm l) (hK : kx_C K) (h : wp_En_hearAdvert n x1 x2 x3 x4 σ Q) (hn : n < 2) (hR : rm_En_hearAdvert.frames + 1 ≤ rm.frames ∧ 8 + (6 + 11) + rm_En_hearAdvert.locals ≤ rm.locals) (hst : (st.map fun v => v.category).sum ≤ 8) (hd : decode cc pc = .ok (.invokevirtual 185, 3)) (hpc : pc + 3 = pc2) (kk : ∀ (σ2 : sx_M) (τ2 : sx_L), Q σ2 → sx_G X K nL pc2 lv (st) (sx_H K σ2 τ2)) : sx_G X K nL pc lv (.int x4 :: .int x3 :: .int x2 :: .int x1 :: .ref (K.2.2.1 31 n 0) :: st) (sx_H K σ τ) :=
  sx_callVv (Q := fun σ _ => Q σ) (As := [.int x1, .int x2, .int x3, .int x4]) hX (c_En_hearAdvert hK n x1 x2 x3 x4 σ τ Q hn h) (hK 31 n 0 hn (by decide)) rfl rfl lk_86 ls_17 hy_En_hearAdvert lk_84 lk_27 lk_85 ⟨rfl, rfl⟩ hR hst rfl hd hpc kk
def y_Ne_stepOf : MethodName := ⟨"SensorTree$Net", "stepOf", "(I)I"⟩
theorem hy_Ne_stepOf : y_Ne_stepOf.cls ≠ "java/lang/invoke/MethodHandle" ∧ y_Ne_stepOf.cls ≠ "java/lang/invoke/VarHandle" ∧ (parseMethodDescriptor y_Ne_stepOf.desc).map (fun d => d.parameters.length) = some 1 := by decide +kernel
theorem d_Ne_stepOf_0 : decode prog_5_method_4_code 0 = .ok (.aload_n 0, 1) := by decide +kernel
theorem d_Ne_stepOf_1 : decode prog_5_method_4_code 1 = .ok (.getfield 53, 3) := by decide +kernel
theorem d_Ne_stepOf_4 : decode prog_5_method_4_code 4 = .ok (.getfield 75, 3) := by decide +kernel
theorem d_Ne_stepOf_7 : decode prog_5_method_4_code 7 = .ok (.ifCond .eq 15, 3) := by decide +kernel
theorem d_Ne_stepOf_10 : decode prog_5_method_4_code 10 = .ok (.bipush 10, 2) := by decide +kernel
theorem d_Ne_stepOf_12 : decode prog_5_method_4_code 12 = .ok (.aload_n 0, 1) := by decide +kernel
theorem d_Ne_stepOf_13 : decode prog_5_method_4_code 13 = .ok (.getfield 43, 3) := by decide +kernel
theorem d_Ne_stepOf_16 : decode prog_5_method_4_code 16 = .ok (.iload_n 1, 1) := by decide +kernel
theorem d_Ne_stepOf_17 : decode prog_5_method_4_code 17 = .ok (.iaload, 1) := by decide +kernel
theorem d_Ne_stepOf_18 : decode prog_5_method_4_code 18 = .ok (.imul, 1) := by decide +kernel
theorem d_Ne_stepOf_19 : decode prog_5_method_4_code 19 = .ok (.goto 5, 3) := by decide +kernel
theorem d_Ne_stepOf_22 : decode prog_5_method_4_code 22 = .ok (.bipush 10, 2) := by decide +kernel
theorem d_Ne_stepOf_24 : decode prog_5_method_4_code 24 = .ok (.ireturn, 1) := by decide +kernel
def wp_Ne_stepOf_b24 (n : Nat)  (Q : Int32 → sx_M → Prop) (w0 : Int32) (σ : sx_M) : Prop := Q w0 σ
def wp_Ne_stepOf (n : Nat) (x1 : Int32) (σ : sx_M) (Q : Int32 → sx_M → Prop) : Prop := if σ 8 0 0 7 = 0 then (wp_Ne_stepOf_b24 n Q 10 σ) else (vp_in x1 16 ∧ (wp_Ne_stepOf_b24 n Q (10 * (σ 19 n 0 x1.toNatClampNeg)) σ))
abbrev rm_Ne_stepOf : Room := { frames := 0, cells := 0, slots := 0, locals := 0 }
set_option maxRecDepth 100000 in
set_option maxHeartbeats 4000000 in
theorem g_Ne_stepOf_b24 {l : Launch} {K : sx_K} {X : sx_T} {n : Nat}  {Q : Int32 → sx_M → Prop} (hX : sx_C X K prog_5_method_4_code 2 "SensorTree$Net" (some .int) rm_Ne_stepOf l) (hK : kx_C K) (hE : sx_E X K (sx_Qi K (fun r σ _ => Q r σ))) (hn : n < 25) (w0 : Int32) (σ : sx_M) (τ : sx_L)  (h : wp_Ne_stepOf_b24 n Q  w0 σ) : sx_G X K 2 24 [] [.int w0] (sx_H K σ τ) := by
  unfold wp_Ne_stepOf_b24 at h
  exact sx_iret hX hE h d_Ne_stepOf_24
set_option maxRecDepth 100000 in
set_option maxHeartbeats 4000000 in
theorem c_Ne_stepOf {l : Launch} {K : sx_K} (hK : kx_C K) (n : Nat) (x1 : Int32) (σ : sx_M) (τ : sx_L) (Q : Int32 → sx_M → Prop) (hn : n < 25) (h : wp_Ne_stepOf n x1 σ Q) : Met l y_Ne_stepOf (sx_wd y_Ne_stepOf prog_5_method_4_code 2 (some .int)) rm_Ne_stepOf (sx_Pc K [.ref (K.2.2.1 16 n 0), .int x1] σ τ) (sx_Qi K (fun r σ _ => Q r σ)) 0 0 (sx_A K) := by
  refine sx_met (by decide) (Nat.le_of_ble_eq_true rfl) (fun X hX hE => ?_)
  replace hX : sx_C X K prog_5_method_4_code 2 "SensorTree$Net" (some .int) rm_Ne_stepOf l := hX
  show sx_G X K 2 0 [(0, .ref (K.2.2.1 16 n 0)), (1, .int x1)] [] (sx_H K σ τ)
  unfold wp_Ne_stepOf at h
  refine sx_aload_n (pc2 := 1) hX 0 d_Ne_stepOf_0 rfl rfl rfl ?_
  refine fg_Ne_53 (pc2 := 4) hX (hK 16 n 0 hn (by decide)) d_Ne_stepOf_1 rfl ?_
  refine fg_Ne_75 (pc2 := 7) hX (hK 8 0 0 (by decide) (by decide)) d_Ne_stepOf_4 rfl ?_
  refine sx_if_eq (tgt := 22) (pc2 := 10) hX d_Ne_stepOf_7 (by decide) rfl (fun hc1 => ?_) (fun hc1 => ?_)
  · replace h := sx_t h hc1
    refine sx_bipush (v := 10) (pc2 := 24) hX d_Ne_stepOf_22 (by decide) rfl ?_
    refine sx_sub [] [] rfl ?_
    exact g_Ne_stepOf_b24 hX hK hE hn  10 _ _ h
  · replace h := sx_f h hc1
    refine sx_bipush (v := 10) (pc2 := 12) hX d_Ne_stepOf_10 (by decide) rfl ?_
    refine sx_aload_n (pc2 := 13) hX 0 d_Ne_stepOf_12 rfl rfl rfl ?_
    refine fg_Ne_43 (pc2 := 16) hX (hK 16 n 0 hn (by decide)) d_Ne_stepOf_13 rfl ?_
    refine sx_iload_n (pc2 := 17) hX 1 d_Ne_stepOf_16 rfl rfl rfl ?_
    obtain ⟨hc2, h⟩ := h
    refine sx_iald (pc2 := 18) hX (hK 19 n 0 hn (by decide)) rfl hc2 d_Ne_stepOf_17 rfl ?_
    refine sx_imul (pc2 := 19) hX d_Ne_stepOf_18 rfl ?_
    refine sx_goto (tgt := 24) hX d_Ne_stepOf_19 (by decide) ?_
    refine sx_sub [] [] rfl ?_
    exact g_Ne_stepOf_b24 hX hK hE hn  (10 * (σ 19 n 0 x1.toNatClampNeg)) _ _ h
theorem cl_Ne_94 {X : sx_T} {K : sx_K} {cc : ByteArray} {nL : Nat} {ret : Option FieldType} {rm : Room} {l : Launch} {pc pc2 : Nat} {lv : List (Nat × Value)} {st : List Value} {σ : sx_M} {τ : sx_L} {n : Nat} {x1 : Int32} {Q : Int32 → sx_M → Prop} (hX : sx_C X K cc nL "SensorTree$Net" ret rm l) (hK : kx_C K) (h : wp_Ne_stepOf n x1 σ Q) (hn : n < 25) (hR : rm_Ne_stepOf.frames + 1 ≤ rm.frames ∧ 8 + (2 + 11) + rm_Ne_stepOf.locals ≤ rm.locals) (hst : (st.map fun v => v.category).sum ≤ 8) (hd : decode cc pc = .ok (.invokevirtual 94, 3)) (hpc : pc + 3 = pc2) (kk : ∀ (r : Int32) (σ2 : sx_M) (τ2 : sx_L), Q r σ2 → sx_G X K nL pc2 lv (.int r :: st) (sx_H K σ2 τ2)) : sx_G X K nL pc lv (.int x1 :: .ref (K.2.2.1 16 n 0) :: st) (sx_H K σ τ) :=
  sx_callVi (Q := fun r σ _ => Q r σ) (As := [.int x1]) hX (c_Ne_stepOf hK n x1 σ τ Q hn h) (hK 16 n 0 hn (by decide)) rfl rfl lk_54 lk_55 hy_Ne_stepOf lk_52 lk_47 lk_53 ⟨rfl, rfl⟩ hR hst rfl hd hpc kk
theorem cl_Tr_40 {X : sx_T} {K : sx_K} {cc : ByteArray} {nL : Nat} {ret : Option FieldType} {rm : Room} {l : Launch} {pc pc2 : Nat} {lv : List (Nat × Value)} {st : List Value} {σ : sx_M} {τ : sx_L} {n : Nat} {x1 : Int32} {Q : Int32 → sx_M → Prop} (hX : sx_C X K cc nL "SensorTree$Truth" ret rm l) (hK : kx_C K) (h : wp_Ne_stepOf n x1 σ Q) (hn : n < 25) (hR : rm_Ne_stepOf.frames + 1 ≤ rm.frames ∧ 8 + (2 + 11) + rm_Ne_stepOf.locals ≤ rm.locals) (hst : (st.map fun v => v.category).sum ≤ 8) (hd : decode cc pc = .ok (.invokevirtual 40, 3)) (hpc : pc + 3 = pc2) (kk : ∀ (r : Int32) (σ2 : sx_M) (τ2 : sx_L), Q r σ2 → sx_G X K nL pc2 lv (.int r :: st) (sx_H K σ2 τ2)) : sx_G X K nL pc lv (.int x1 :: .ref (K.2.2.1 16 n 0) :: st) (sx_H K σ τ) :=
  sx_callVi (Q := fun r σ _ => Q r σ) (As := [.int x1]) hX (c_Ne_stepOf hK n x1 σ τ Q hn h) (hK 16 n 0 hn (by decide)) rfl rfl lk_54 lk_55 hy_Ne_stepOf lk_52 lk_47 lk_235 ⟨rfl, rfl⟩ hR hst rfl hd hpc kk
theorem cl_St_212 {X : sx_T} {K : sx_K} {cc : ByteArray} {nL : Nat} {ret : Option FieldType} {rm : Room} {l : Launch} {pc pc2 : Nat} {lv : List (Nat × Value)} {st : List Value} {σ : sx_M} {τ : sx_L} {n : Nat} {x1 : Int32} {Q : Int32 → sx_M → Prop} (hX : sx_C X K cc nL "SensorTree" ret rm l) (hK : kx_C K) (h : wp_Ne_stepOf n x1 σ Q) (hn : n < 25) (hR : rm_Ne_stepOf.frames + 1 ≤ rm.frames ∧ 8 + (2 + 11) + rm_Ne_stepOf.locals ≤ rm.locals) (hst : (st.map fun v => v.category).sum ≤ 8) (hd : decode cc pc = .ok (.invokevirtual 212, 3)) (hpc : pc + 3 = pc2) (kk : ∀ (r : Int32) (σ2 : sx_M) (τ2 : sx_L), Q r σ2 → sx_G X K nL pc2 lv (.int r :: st) (sx_H K σ2 τ2)) : sx_G X K nL pc lv (.int x1 :: .ref (K.2.2.1 16 n 0) :: st) (sx_H K σ τ) :=
  sx_callVi (Q := fun r σ _ => Q r σ) (As := [.int x1]) hX (c_Ne_stepOf hK n x1 σ τ Q hn h) (hK 16 n 0 hn (by decide)) rfl rfl lk_54 lk_55 hy_Ne_stepOf lk_52 lk_47 lk_310 ⟨rfl, rfl⟩ hR hst rfl hd hpc kk
def y_Ne_offer : MethodName := ⟨"SensorTree$Net", "offer", "(II)I"⟩
theorem hy_Ne_offer : y_Ne_offer.cls ≠ "java/lang/invoke/MethodHandle" ∧ y_Ne_offer.cls ≠ "java/lang/invoke/VarHandle" ∧ (parseMethodDescriptor y_Ne_offer.desc).map (fun d => d.parameters.length) = some 2 := by decide +kernel
theorem d_Ne_offer_0 : decode prog_5_method_6_code 0 = .ok (.aload_n 0, 1) := by decide +kernel
theorem d_Ne_offer_1 : decode prog_5_method_6_code 1 = .ok (.iload_n 1, 1) := by decide +kernel
theorem d_Ne_offer_2 : decode prog_5_method_6_code 2 = .ok (.iload_n 2, 1) := by decide +kernel
theorem d_Ne_offer_3 : decode prog_5_method_6_code 3 = .ok (.invokevirtual 86, 3) := by decide +kernel
theorem d_Ne_offer_6 : decode prog_5_method_6_code 6 = .ok (.ifCond .eq 20, 3) := by decide +kernel
theorem d_Ne_offer_9 : decode prog_5_method_6_code 9 = .ok (.aload_n 0, 1) := by decide +kernel
theorem d_Ne_offer_10 : decode prog_5_method_6_code 10 = .ok (.getfield 35, 3) := by decide +kernel
theorem d_Ne_offer_13 : decode prog_5_method_6_code 13 = .ok (.iload_n 1, 1) := by decide +kernel
theorem d_Ne_offer_14 : decode prog_5_method_6_code 14 = .ok (.aaload, 1) := by decide +kernel
theorem d_Ne_offer_15 : decode prog_5_method_6_code 15 = .ok (.getfield 90, 3) := by decide +kernel
theorem d_Ne_offer_18 : decode prog_5_method_6_code 18 = .ok (.iload_n 2, 1) := by decide +kernel
theorem d_Ne_offer_19 : decode prog_5_method_6_code 19 = .ok (.iaload, 1) := by decide +kernel
theorem d_Ne_offer_20 : decode prog_5_method_6_code 20 = .ok (.sipush 9999, 3) := by decide +kernel
theorem d_Ne_offer_23 : decode prog_5_method_6_code 23 = .ok (.if_icmp .lt 6, 3) := by decide +kernel
theorem d_Ne_offer_26 : decode prog_5_method_6_code 26 = .ok (.ldc 93, 2) := by decide +kernel
theorem d_Ne_offer_28 : decode prog_5_method_6_code 28 = .ok (.ireturn, 1) := by decide +kernel
theorem d_Ne_offer_29 : decode prog_5_method_6_code 29 = .ok (.aload_n 0, 1) := by decide +kernel
theorem d_Ne_offer_30 : decode prog_5_method_6_code 30 = .ok (.getfield 35, 3) := by decide +kernel
theorem d_Ne_offer_33 : decode prog_5_method_6_code 33 = .ok (.iload_n 1, 1) := by decide +kernel
theorem d_Ne_offer_34 : decode prog_5_method_6_code 34 = .ok (.aaload, 1) := by decide +kernel
theorem d_Ne_offer_35 : decode prog_5_method_6_code 35 = .ok (.getfield 90, 3) := by decide +kernel
theorem d_Ne_offer_38 : decode prog_5_method_6_code 38 = .ok (.iload_n 2, 1) := by decide +kernel
theorem d_Ne_offer_39 : decode prog_5_method_6_code 39 = .ok (.iaload, 1) := by decide +kernel
theorem d_Ne_offer_40 : decode prog_5_method_6_code 40 = .ok (.aload_n 0, 1) := by decide +kernel
theorem d_Ne_offer_41 : decode prog_5_method_6_code 41 = .ok (.aload_n 0, 1) := by decide +kernel
theorem d_Ne_offer_42 : decode prog_5_method_6_code 42 = .ok (.getfield 53, 3) := by decide +kernel
theorem d_Ne_offer_45 : decode prog_5_method_6_code 45 = .ok (.getfield 79, 3) := by decide +kernel
theorem d_Ne_offer_48 : decode prog_5_method_6_code 48 = .ok (.iload_n 1, 1) := by decide +kernel
theorem d_Ne_offer_49 : decode prog_5_method_6_code 49 = .ok (.aaload, 1) := by decide +kernel
theorem d_Ne_offer_50 : decode prog_5_method_6_code 50 = .ok (.iload_n 2, 1) := by decide +kernel
theorem d_Ne_offer_51 : decode prog_5_method_6_code 51 = .ok (.iaload, 1) := by decide +kernel
theorem d_Ne_offer_52 : decode prog_5_method_6_code 52 = .ok (.invokevirtual 94, 3) := by decide +kernel
theorem d_Ne_offer_55 : decode prog_5_method_6_code 55 = .ok (.iadd, 1) := by decide +kernel
theorem d_Ne_offer_56 : decode prog_5_method_6_code 56 = .ok (.ireturn, 1) := by decide +kernel
def wp_Ne_offer_b26 (n : Nat)  (Q : Int32 → sx_M → Prop)  (σ : sx_M) : Prop := Q 1000000 σ
def wp_Ne_offer (n : Nat) (x1 : Int32) (x2 : Int32) (σ : sx_M) (Q : Int32 → sx_M → Prop) : Prop := wp_Ne_areNeighbours n x1 x2 σ (fun r1 σ1 => if r1 = 0 then (wp_Ne_offer_b26 n Q σ1) else (vp_in x1 7 ∧ (vp_in x2 7 ∧ (if σ1 28 n x1.toNatClampNeg x2.toNatClampNeg < 9999 then (vp_in x1 7 ∧ (vp_in x2 7 ∧ (vp_in x1 7 ∧ (vp_in x2 7 ∧ (wp_Ne_stepOf n (σ1 13 0 x1.toNatClampNeg x2.toNatClampNeg) σ1 (fun r10 σ10 => Q ((σ1 28 n x1.toNatClampNeg x2.toNatClampNeg) + r10) σ10)))))) else (wp_Ne_offer_b26 n Q σ1)))))
abbrev rm_Ne_offer : Room := { frames := 1, cells := 0, slots := 0, locals := 23 }
set_option maxRecDepth 100000 in
set_option maxHeartbeats 4000000 in
theorem g_Ne_offer_b26 {l : Launch} {K : sx_K} {X : sx_T} {n : Nat}  {Q : Int32 → sx_M → Prop} (hX : sx_C X K prog_5_method_6_code 3 "SensorTree$Net" (some .int) rm_Ne_offer l) (hK : kx_C K) (hE : sx_E X K (sx_Qi K (fun r σ _ => Q r σ))) (hn : n < 25)  (σ : sx_M) (τ : sx_L)  (h : wp_Ne_offer_b26 n Q  σ) : sx_G X K 3 26 [] [] (sx_H K σ τ) := by
  unfold wp_Ne_offer_b26 at h
  refine sx_ldc (v := 1000000) (pc2 := 28) hX lk_3 d_Ne_offer_26 rfl ?_
  exact sx_iret hX hE h d_Ne_offer_28
set_option maxRecDepth 100000 in
set_option maxHeartbeats 4000000 in
theorem c_Ne_offer {l : Launch} {K : sx_K} (hK : kx_C K) (n : Nat) (x1 : Int32) (x2 : Int32) (σ : sx_M) (τ : sx_L) (Q : Int32 → sx_M → Prop) (hn : n < 25) (h : wp_Ne_offer n x1 x2 σ Q) : Met l y_Ne_offer (sx_wd y_Ne_offer prog_5_method_6_code 3 (some .int)) rm_Ne_offer (sx_Pc K [.ref (K.2.2.1 16 n 0), .int x1, .int x2] σ τ) (sx_Qi K (fun r σ _ => Q r σ)) 0 0 (sx_A K) := by
  refine sx_met (by decide) (Nat.le_of_ble_eq_true rfl) (fun X hX hE => ?_)
  replace hX : sx_C X K prog_5_method_6_code 3 "SensorTree$Net" (some .int) rm_Ne_offer l := hX
  show sx_G X K 3 0 [(0, .ref (K.2.2.1 16 n 0)), (1, .int x1), (2, .int x2)] [] (sx_H K σ τ)
  unfold wp_Ne_offer at h
  refine sx_aload_n (pc2 := 1) hX 0 d_Ne_offer_0 rfl rfl rfl ?_
  refine sx_iload_n (pc2 := 2) hX 1 d_Ne_offer_1 rfl rfl rfl ?_
  refine sx_iload_n (pc2 := 3) hX 2 d_Ne_offer_2 rfl rfl rfl ?_
  refine cl_Ne_86 (pc2 := 6) hX hK h hn ⟨Nat.le_of_ble_eq_true rfl, Nat.le_of_ble_eq_true rfl⟩ (Nat.le_of_ble_eq_true rfl) d_Ne_offer_3 rfl (fun r1 σ1 τ1 h => ?_)
  refine sx_if_eq (tgt := 26) (pc2 := 9) hX d_Ne_offer_6 (by decide) rfl (fun hc2 => ?_) (fun hc2 => ?_)
  · replace h := sx_t h hc2
    refine sx_sub [] [] rfl ?_
    exact g_Ne_offer_b26 hX hK hE hn  _ _ h
  · replace h := sx_f h hc2
    refine sx_aload_n (pc2 := 10) hX 0 d_Ne_offer_9 rfl rfl rfl ?_
    refine fg_Ne_35 (pc2 := 13) hX (hK 16 n 0 hn (by decide)) d_Ne_offer_10 rfl ?_
    refine sx_iload_n (pc2 := 14) hX 1 d_Ne_offer_13 rfl rfl rfl ?_
    obtain ⟨hc3, h⟩ := h
    refine sx_aald (a := K.2.2.1 27 n x1.toNatClampNeg) (pc2 := 15) hX (hK 17 n 0 hn (by decide)) 4 rfl rfl rfl hc3 d_Ne_offer_14 rfl ?_
    refine fg_Ne_90 (pc2 := 18) hX (hK 27 n x1.toNatClampNeg hn (sx_lt hc3)) d_Ne_offer_15 rfl ?_
    refine sx_iload_n (pc2 := 19) hX 2 d_Ne_offer_18 rfl rfl rfl ?_
    obtain ⟨hc4, h⟩ := h
    refine sx_iald (pc2 := 20) hX (hK 28 n x1.toNatClampNeg hn (sx_lt hc3)) rfl hc4 d_Ne_offer_19 rfl ?_
    refine sx_sipush (v := 9999) (pc2 := 23) hX d_Ne_offer_20 (by decide) rfl ?_
    refine sx_icmp_lt (tgt := 29) (pc2 := 26) hX d_Ne_offer_23 (by decide) rfl (fun hc5 => ?_) (fun hc5 => ?_)
    · replace h := sx_t h hc5
      refine sx_aload_n (pc2 := 30) hX 0 d_Ne_offer_29 rfl rfl rfl ?_
      refine fg_Ne_35 (pc2 := 33) hX (hK 16 n 0 hn (by decide)) d_Ne_offer_30 rfl ?_
      refine sx_iload_n (pc2 := 34) hX 1 d_Ne_offer_33 rfl rfl rfl ?_
      obtain ⟨hc6, h⟩ := h
      refine sx_aald (a := K.2.2.1 27 n x1.toNatClampNeg) (pc2 := 35) hX (hK 17 n 0 hn (by decide)) 4 rfl rfl rfl hc6 d_Ne_offer_34 rfl ?_
      refine fg_Ne_90 (pc2 := 38) hX (hK 27 n x1.toNatClampNeg hn (sx_lt hc6)) d_Ne_offer_35 rfl ?_
      refine sx_iload_n (pc2 := 39) hX 2 d_Ne_offer_38 rfl rfl rfl ?_
      obtain ⟨hc7, h⟩ := h
      refine sx_iald (pc2 := 40) hX (hK 28 n x1.toNatClampNeg hn (sx_lt hc6)) rfl hc7 d_Ne_offer_39 rfl ?_
      refine sx_aload_n (pc2 := 41) hX 0 d_Ne_offer_40 rfl rfl rfl ?_
      refine sx_aload_n (pc2 := 42) hX 0 d_Ne_offer_41 rfl rfl rfl ?_
      refine fg_Ne_53 (pc2 := 45) hX (hK 16 n 0 hn (by decide)) d_Ne_offer_42 rfl ?_
      refine fg_Ne_79 (pc2 := 48) hX (hK 8 0 0 (by decide) (by decide)) d_Ne_offer_45 rfl ?_
      refine sx_iload_n (pc2 := 49) hX 1 d_Ne_offer_48 rfl rfl rfl ?_
      obtain ⟨hc8, h⟩ := h
      refine sx_aalA (a := K.2.2.1 13 0 x1.toNatClampNeg) (pc2 := 50) hX (hK 12 0 0 (by decide) (by decide)) rfl rfl hc8 d_Ne_offer_49 rfl ?_
      refine sx_iload_n (pc2 := 51) hX 2 d_Ne_offer_50 rfl rfl rfl ?_
      obtain ⟨hc9, h⟩ := h
      refine sx_iald (pc2 := 52) hX (hK 13 0 x1.toNatClampNeg (by decide) (sx_lt hc8)) rfl hc9 d_Ne_offer_51 rfl ?_
      refine cl_Ne_94 (pc2 := 55) hX hK h hn ⟨Nat.le_of_ble_eq_true rfl, Nat.le_of_ble_eq_true rfl⟩ (Nat.le_of_ble_eq_true rfl) d_Ne_offer_52 rfl (fun r10 σ10 τ10 h => ?_)
      refine sx_iadd (pc2 := 56) hX d_Ne_offer_55 rfl ?_
      exact sx_iret hX hE h d_Ne_offer_56
    · replace h := sx_f h hc5
      refine sx_sub [] [] rfl ?_
      exact g_Ne_offer_b26 hX hK hE hn  _ _ h
theorem cl_Ne_98 {X : sx_T} {K : sx_K} {cc : ByteArray} {nL : Nat} {ret : Option FieldType} {rm : Room} {l : Launch} {pc pc2 : Nat} {lv : List (Nat × Value)} {st : List Value} {σ : sx_M} {τ : sx_L} {n : Nat} {x1 : Int32} {x2 : Int32} {Q : Int32 → sx_M → Prop} (hX : sx_C X K cc nL "SensorTree$Net" ret rm l) (hK : kx_C K) (h : wp_Ne_offer n x1 x2 σ Q) (hn : n < 25) (hR : rm_Ne_offer.frames + 1 ≤ rm.frames ∧ 8 + (3 + 11) + rm_Ne_offer.locals ≤ rm.locals) (hst : (st.map fun v => v.category).sum ≤ 8) (hd : decode cc pc = .ok (.invokevirtual 98, 3)) (hpc : pc + 3 = pc2) (kk : ∀ (r : Int32) (σ2 : sx_M) (τ2 : sx_L), Q r σ2 → sx_G X K nL pc2 lv (.int r :: st) (sx_H K σ2 τ2)) : sx_G X K nL pc lv (.int x2 :: .int x1 :: .ref (K.2.2.1 16 n 0) :: st) (sx_H K σ τ) :=
  sx_callVi (Q := fun r σ _ => Q r σ) (As := [.int x1, .int x2]) hX (c_Ne_offer hK n x1 x2 σ τ Q hn h) (hK 16 n 0 hn (by decide)) rfl rfl lk_58 lk_59 hy_Ne_offer lk_56 lk_47 lk_57 ⟨rfl, rfl⟩ hR hst rfl hd hpc kk
theorem cl_En_227 {X : sx_T} {K : sx_K} {cc : ByteArray} {nL : Nat} {ret : Option FieldType} {rm : Room} {l : Launch} {pc pc2 : Nat} {lv : List (Nat × Value)} {st : List Value} {σ : sx_M} {τ : sx_L} {n : Nat} {x1 : Int32} {x2 : Int32} {Q : Int32 → sx_M → Prop} (hX : sx_C X K cc nL "SensorTree$Engine" ret rm l) (hK : kx_C K) (h : wp_Ne_offer n x1 x2 σ Q) (hn : n < 25) (hR : rm_Ne_offer.frames + 1 ≤ rm.frames ∧ 8 + (3 + 11) + rm_Ne_offer.locals ≤ rm.locals) (hst : (st.map fun v => v.category).sum ≤ 8) (hd : decode cc pc = .ok (.invokevirtual 227, 3)) (hpc : pc + 3 = pc2) (kk : ∀ (r : Int32) (σ2 : sx_M) (τ2 : sx_L), Q r σ2 → sx_G X K nL pc2 lv (.int r :: st) (sx_H K σ2 τ2)) : sx_G X K nL pc lv (.int x2 :: .int x1 :: .ref (K.2.2.1 16 n 0) :: st) (sx_H K σ τ) :=
  sx_callVi (Q := fun r σ _ => Q r σ) (As := [.int x1, .int x2]) hX (c_Ne_offer hK n x1 x2 σ τ Q hn h) (hK 16 n 0 hn (by decide)) rfl rfl lk_58 lk_59 hy_Ne_offer lk_56 lk_47 lk_60 ⟨rfl, rfl⟩ hR hst rfl hd hpc kk
def y_Ne_bestOffer : MethodName := ⟨"SensorTree$Net", "bestOffer", "(II)I"⟩
theorem hy_Ne_bestOffer : y_Ne_bestOffer.cls ≠ "java/lang/invoke/MethodHandle" ∧ y_Ne_bestOffer.cls ≠ "java/lang/invoke/VarHandle" ∧ (parseMethodDescriptor y_Ne_bestOffer.desc).map (fun d => d.parameters.length) = some 2 := by decide +kernel
theorem d_Ne_bestOffer_0 : decode prog_5_method_7_code 0 = .ok (.bipush (-2), 2) := by decide +kernel
theorem d_Ne_bestOffer_2 : decode prog_5_method_7_code 2 = .ok (.istore_n 3, 1) := by decide +kernel
theorem d_Ne_bestOffer_3 : decode prog_5_method_7_code 3 = .ok (.ldc 93, 2) := by decide +kernel
theorem d_Ne_bestOffer_5 : decode prog_5_method_7_code 5 = .ok (.istore 4, 2) := by decide +kernel
theorem d_Ne_bestOffer_7 : decode prog_5_method_7_code 7 = .ok (.iconst 0, 1) := by decide +kernel
theorem d_Ne_bestOffer_8 : decode prog_5_method_7_code 8 = .ok (.istore 5, 2) := by decide +kernel
theorem d_Ne_bestOffer_10 : decode prog_5_method_7_code 10 = .ok (.iload 5, 2) := by decide +kernel
theorem d_Ne_bestOffer_12 : decode prog_5_method_7_code 12 = .ok (.aload_n 0, 1) := by decide +kernel
theorem d_Ne_bestOffer_13 : decode prog_5_method_7_code 13 = .ok (.getfield 53, 3) := by decide +kernel
theorem d_Ne_bestOffer_16 : decode prog_5_method_7_code 16 = .ok (.getfield 58, 3) := by decide +kernel
theorem d_Ne_bestOffer_19 : decode prog_5_method_7_code 19 = .ok (.if_icmp .ge 43, 3) := by decide +kernel
theorem d_Ne_bestOffer_22 : decode prog_5_method_7_code 22 = .ok (.iload 5, 2) := by decide +kernel
theorem d_Ne_bestOffer_24 : decode prog_5_method_7_code 24 = .ok (.iload_n 2, 1) := by decide +kernel
theorem d_Ne_bestOffer_25 : decode prog_5_method_7_code 25 = .ok (.if_icmp .ne 8, 3) := by decide +kernel
theorem d_Ne_bestOffer_28 : decode prog_5_method_7_code 28 = .ok (.ldc 93, 2) := by decide +kernel
theorem d_Ne_bestOffer_30 : decode prog_5_method_7_code 30 = .ok (.goto 10, 3) := by decide +kernel
theorem d_Ne_bestOffer_33 : decode prog_5_method_7_code 33 = .ok (.aload_n 0, 1) := by decide +kernel
theorem d_Ne_bestOffer_34 : decode prog_5_method_7_code 34 = .ok (.iload_n 1, 1) := by decide +kernel
theorem d_Ne_bestOffer_35 : decode prog_5_method_7_code 35 = .ok (.iload 5, 2) := by decide +kernel
theorem d_Ne_bestOffer_37 : decode prog_5_method_7_code 37 = .ok (.invokevirtual 98, 3) := by decide +kernel
theorem d_Ne_bestOffer_40 : decode prog_5_method_7_code 40 = .ok (.istore 6, 2) := by decide +kernel
theorem d_Ne_bestOffer_42 : decode prog_5_method_7_code 42 = .ok (.iload 6, 2) := by decide +kernel
theorem d_Ne_bestOffer_44 : decode prog_5_method_7_code 44 = .ok (.iload 4, 2) := by decide +kernel
theorem d_Ne_bestOffer_46 : decode prog_5_method_7_code 46 = .ok (.if_icmp .ge 10, 3) := by decide +kernel
theorem d_Ne_bestOffer_49 : decode prog_5_method_7_code 49 = .ok (.iload 5, 2) := by decide +kernel
theorem d_Ne_bestOffer_51 : decode prog_5_method_7_code 51 = .ok (.istore_n 3, 1) := by decide +kernel
theorem d_Ne_bestOffer_52 : decode prog_5_method_7_code 52 = .ok (.iload 6, 2) := by decide +kernel
theorem d_Ne_bestOffer_54 : decode prog_5_method_7_code 54 = .ok (.istore 4, 2) := by decide +kernel
theorem d_Ne_bestOffer_56 : decode prog_5_method_7_code 56 = .ok (.iinc 5 1, 3) := by decide +kernel
theorem d_Ne_bestOffer_59 : decode prog_5_method_7_code 59 = .ok (.goto (-49), 3) := by decide +kernel
theorem d_Ne_bestOffer_62 : decode prog_5_method_7_code 62 = .ok (.iload_n 3, 1) := by decide +kernel
theorem d_Ne_bestOffer_63 : decode prog_5_method_7_code 63 = .ok (.ireturn, 1) := by decide +kernel
def wp_Ne_bestOffer_b56 (n : Nat) (k10 : Int32 → Int32 → Int32 → Int32 → Int32 → sx_M → Prop) (Q : Int32 → sx_M → Prop) (v1 : Int32) (v2 : Int32) (v3 : Int32) (v4 : Int32) (v5 : Int32) (σ : sx_M) : Prop := k10 v1 v2 v3 v4 (v5 + 1) σ
def wp_Ne_bestOffer_b40 (n : Nat) (k10 : Int32 → Int32 → Int32 → Int32 → Int32 → sx_M → Prop) (Q : Int32 → sx_M → Prop) (v1 : Int32) (v2 : Int32) (v3 : Int32) (v4 : Int32) (v5 : Int32) (w0 : Int32) (σ : sx_M) : Prop := if v4 ≤ w0 then (wp_Ne_bestOffer_b56 n k10 Q v1 v2 v3 v4 v5 σ) else (wp_Ne_bestOffer_b56 n k10 Q v1 v2 v5 w0 v5 σ)
def wp_Ne_bestOffer_b10 (n : Nat)  (Q : Int32 → sx_M → Prop) : Nat → Int32 → Int32 → Int32 → Int32 → Int32 → sx_M → Prop
  | 0, _, _, _, _, _, _ => False
  | f + 1, v1, v2, v3, v4, v5, σ => if σ 8 0 0 0 ≤ v5 then (Q v3 σ) else (if v5 = v2 then (wp_Ne_bestOffer_b40 n (wp_Ne_bestOffer_b10 n Q f) Q v1 v2 v3 v4 v5 1000000 σ) else (wp_Ne_offer n v1 v5 σ (fun r4 σ4 => wp_Ne_bestOffer_b40 n (wp_Ne_bestOffer_b10 n Q f) Q v1 v2 v3 v4 v5 r4 σ4)))
def wp_Ne_bestOffer (n : Nat) (x1 : Int32) (x2 : Int32) (σ : sx_M) (Q : Int32 → sx_M → Prop) : Prop := ∃ f10, wp_Ne_bestOffer_b10 n Q f10 x1 x2 (-2) 1000000 0 σ
abbrev rm_Ne_bestOffer : Room := { frames := 2, cells := 0, slots := 0, locals := 45 }
set_option maxRecDepth 100000 in
set_option maxHeartbeats 4000000 in
theorem g_Ne_bestOffer_b56 {l : Launch} {K : sx_K} {X : sx_T} {n : Nat} {k10 : Int32 → Int32 → Int32 → Int32 → Int32 → sx_M → Prop} {Q : Int32 → sx_M → Prop} (hX : sx_C X K prog_5_method_7_code 7 "SensorTree$Net" (some .int) rm_Ne_bestOffer l) (hK : kx_C K) (hE : sx_E X K (sx_Qi K (fun r σ _ => Q r σ))) (hn : n < 25) (hk10 : ∀ (v1 : Int32) (v2 : Int32) (v3 : Int32) (v4 : Int32) (v5 : Int32) (σ : sx_M) (τ : sx_L) , k10 v1 v2 v3 v4 v5 σ → sx_G X K 7 10 [(0, .ref (K.2.2.1 16 n 0)), (1, .int v1), (2, .int v2), (3, .int v3), (4, .int v4), (5, .int v5)] [] (sx_H K σ τ)) (v1 : Int32) (v2 : Int32) (v3 : Int32) (v4 : Int32) (v5 : Int32) (σ : sx_M) (τ : sx_L)  (h : wp_Ne_bestOffer_b56 n k10 Q  v1 v2 v3 v4 v5 σ) : sx_G X K 7 56 [(0, .ref (K.2.2.1 16 n 0)), (1, .int v1), (2, .int v2), (3, .int v3), (4, .int v4), (5, .int v5)] [] (sx_H K σ τ) := by
  unfold wp_Ne_bestOffer_b56 at h
  refine sx_iinc (pc2 := 59) hX 5 _ [(0, .ref (K.2.2.1 16 n 0)), (1, .int v1), (2, .int v2), (3, .int v3), (4, .int v4), (5, .int (v5 + 1))] [1, 2, 3, 4, 5, 0] d_Ne_bestOffer_56 rfl (v5 + 1) rfl (by decide) rfl rfl rfl ?_
  refine sx_goto (tgt := 10) hX d_Ne_bestOffer_59 (by decide) ?_
  exact hk10 v1 v2 v3 v4 (v5 + 1) _ _ h
set_option maxRecDepth 100000 in
set_option maxHeartbeats 4000000 in
theorem g_Ne_bestOffer_b40 {l : Launch} {K : sx_K} {X : sx_T} {n : Nat} {k10 : Int32 → Int32 → Int32 → Int32 → Int32 → sx_M → Prop} {Q : Int32 → sx_M → Prop} (hX : sx_C X K prog_5_method_7_code 7 "SensorTree$Net" (some .int) rm_Ne_bestOffer l) (hK : kx_C K) (hE : sx_E X K (sx_Qi K (fun r σ _ => Q r σ))) (hn : n < 25) (hk10 : ∀ (v1 : Int32) (v2 : Int32) (v3 : Int32) (v4 : Int32) (v5 : Int32) (σ : sx_M) (τ : sx_L) , k10 v1 v2 v3 v4 v5 σ → sx_G X K 7 10 [(0, .ref (K.2.2.1 16 n 0)), (1, .int v1), (2, .int v2), (3, .int v3), (4, .int v4), (5, .int v5)] [] (sx_H K σ τ)) (v1 : Int32) (v2 : Int32) (v3 : Int32) (v4 : Int32) (v5 : Int32) (w0 : Int32) (σ : sx_M) (τ : sx_L)  (h : wp_Ne_bestOffer_b40 n k10 Q  v1 v2 v3 v4 v5 w0 σ) : sx_G X K 7 40 [(0, .ref (K.2.2.1 16 n 0)), (1, .int v1), (2, .int v2), (3, .int v3), (4, .int v4), (5, .int v5)] [.int w0] (sx_H K σ τ) := by
  unfold wp_Ne_bestOffer_b40 at h
  refine sx_istore (pc2 := 42) hX _ [(0, .ref (K.2.2.1 16 n 0)), (1, .int v1), (2, .int v2), (3, .int v3), (4, .int v4), (5, .int v5), (6, .int w0)] [1, 2, 3, 4, 5, 6, 0] d_Ne_bestOffer_40 (by decide) rfl rfl rfl ?_
  refine sx_iload (pc2 := 44) hX 6 d_Ne_bestOffer_42 rfl rfl ?_
  refine sx_iload (pc2 := 46) hX 4 d_Ne_bestOffer_44 rfl rfl ?_
  refine sx_icmp_ge (tgt := 56) (pc2 := 49) hX d_Ne_bestOffer_46 (by decide) rfl (fun hc1 => ?_) (fun hc1 => ?_)
  · replace h := sx_t h hc1
    refine sx_sub [(0, .ref (K.2.2.1 16 n 0)), (1, .int v1), (2, .int v2), (3, .int v3), (4, .int v4), (5, .int v5)] [0, 1, 2, 3, 4, 5] rfl ?_
    exact g_Ne_bestOffer_b56 hX hK hE hn hk10 v1 v2 v3 v4 v5 _ _ h
  · replace h := sx_f h hc1
    refine sx_iload (pc2 := 51) hX 5 d_Ne_bestOffer_49 rfl rfl ?_
    refine sx_istore_n (pc2 := 52) hX _ [(0, .ref (K.2.2.1 16 n 0)), (1, .int v1), (2, .int v2), (3, .int v5), (4, .int v4), (5, .int v5), (6, .int w0)] [1, 2, 3, 0, 4, 5, 6] d_Ne_bestOffer_51 rfl (by decide) rfl rfl rfl ?_
    refine sx_iload (pc2 := 54) hX 6 d_Ne_bestOffer_52 rfl rfl ?_
    refine sx_istore (pc2 := 56) hX _ [(0, .ref (K.2.2.1 16 n 0)), (1, .int v1), (2, .int v2), (3, .int v5), (4, .int w0), (5, .int v5), (6, .int w0)] [1, 2, 3, 4, 0, 5, 6] d_Ne_bestOffer_54 (by decide) rfl rfl rfl ?_
    refine sx_sub [(0, .ref (K.2.2.1 16 n 0)), (1, .int v1), (2, .int v2), (3, .int v5), (4, .int w0), (5, .int v5)] [0, 1, 2, 3, 4, 5] rfl ?_
    exact g_Ne_bestOffer_b56 hX hK hE hn hk10 v1 v2 v5 w0 v5 _ _ h
set_option maxRecDepth 100000 in
set_option maxHeartbeats 4000000 in
theorem g_Ne_bestOffer_b10 {l : Launch} {K : sx_K} {X : sx_T} {n : Nat}  {Q : Int32 → sx_M → Prop} (hX : sx_C X K prog_5_method_7_code 7 "SensorTree$Net" (some .int) rm_Ne_bestOffer l) (hK : kx_C K) (hE : sx_E X K (sx_Qi K (fun r σ _ => Q r σ))) (hn : n < 25) : ∀ (f : Nat) (v1 : Int32) (v2 : Int32) (v3 : Int32) (v4 : Int32) (v5 : Int32) (σ : sx_M) (τ : sx_L) , wp_Ne_bestOffer_b10 n Q f v1 v2 v3 v4 v5 σ → sx_G X K 7 10 [(0, .ref (K.2.2.1 16 n 0)), (1, .int v1), (2, .int v2), (3, .int v3), (4, .int v4), (5, .int v5)] [] (sx_H K σ τ) := by
  intro f
  induction f with
  | zero => intro v1 v2 v3 v4 v5 σ τ h; exact (show False from h).elim
  | succ f ih =>
    intro v1 v2 v3 v4 v5 σ τ h
    rw [wp_Ne_bestOffer_b10] at h
    refine sx_iload (pc2 := 12) hX 5 d_Ne_bestOffer_10 rfl rfl ?_
    refine sx_aload_n (pc2 := 13) hX 0 d_Ne_bestOffer_12 rfl rfl rfl ?_
    refine fg_Ne_53 (pc2 := 16) hX (hK 16 n 0 hn (by decide)) d_Ne_bestOffer_13 rfl ?_
    refine fg_Ne_58 (pc2 := 19) hX (hK 8 0 0 (by decide) (by decide)) d_Ne_bestOffer_16 rfl ?_
    refine sx_icmp_ge (tgt := 62) (pc2 := 22) hX d_Ne_bestOffer_19 (by decide) rfl (fun hc2 => ?_) (fun hc2 => ?_)
    · replace h := sx_t h hc2
      refine sx_iload_n (pc2 := 63) hX 3 d_Ne_bestOffer_62 rfl rfl rfl ?_
      exact sx_iret hX hE h d_Ne_bestOffer_63
    · replace h := sx_f h hc2
      refine sx_iload (pc2 := 24) hX 5 d_Ne_bestOffer_22 rfl rfl ?_
      refine sx_iload_n (pc2 := 25) hX 2 d_Ne_bestOffer_24 rfl rfl rfl ?_
      refine sx_icmp_ne (tgt := 33) (pc2 := 28) hX d_Ne_bestOffer_25 (by decide) rfl (fun hc3 => ?_) (fun hc3 => ?_)
      · replace h := sx_f h hc3
        refine sx_aload_n (pc2 := 34) hX 0 d_Ne_bestOffer_33 rfl rfl rfl ?_
        refine sx_iload_n (pc2 := 35) hX 1 d_Ne_bestOffer_34 rfl rfl rfl ?_
        refine sx_iload (pc2 := 37) hX 5 d_Ne_bestOffer_35 rfl rfl ?_
        refine cl_Ne_98 (pc2 := 40) hX hK h hn ⟨Nat.le_of_ble_eq_true rfl, Nat.le_of_ble_eq_true rfl⟩ (Nat.le_of_ble_eq_true rfl) d_Ne_bestOffer_37 rfl (fun r4 σ4 τ4 h => ?_)
        exact g_Ne_bestOffer_b40 hX hK hE hn ih v1 v2 v3 v4 v5 r4 _ _ h
      · replace h := sx_t h hc3
        refine sx_ldc (v := 1000000) (pc2 := 30) hX lk_3 d_Ne_bestOffer_28 rfl ?_
        refine sx_goto (tgt := 40) hX d_Ne_bestOffer_30 (by decide) ?_
        exact g_Ne_bestOffer_b40 hX hK hE hn ih v1 v2 v3 v4 v5 1000000 _ _ h
set_option maxRecDepth 100000 in
set_option maxHeartbeats 4000000 in
theorem c_Ne_bestOffer {l : Launch} {K : sx_K} (hK : kx_C K) (n : Nat) (x1 : Int32) (x2 : Int32) (σ : sx_M) (τ : sx_L) (Q : Int32 → sx_M → Prop) (hn : n < 25) (h : wp_Ne_bestOffer n x1 x2 σ Q) : Met l y_Ne_bestOffer (sx_wd y_Ne_bestOffer prog_5_method_7_code 7 (some .int)) rm_Ne_bestOffer (sx_Pc K [.ref (K.2.2.1 16 n 0), .int x1, .int x2] σ τ) (sx_Qi K (fun r σ _ => Q r σ)) 0 0 (sx_A K) := by
  refine sx_met (by decide) (Nat.le_of_ble_eq_true rfl) (fun X hX hE => ?_)
  replace hX : sx_C X K prog_5_method_7_code 7 "SensorTree$Net" (some .int) rm_Ne_bestOffer l := hX
  show sx_G X K 7 0 [(0, .ref (K.2.2.1 16 n 0)), (1, .int x1), (2, .int x2)] [] (sx_H K σ τ)
  unfold wp_Ne_bestOffer at h
  refine sx_bipush (v := (-2)) (pc2 := 2) hX d_Ne_bestOffer_0 (by decide) rfl ?_
  refine sx_istore_n (pc2 := 3) hX _ [(0, .ref (K.2.2.1 16 n 0)), (1, .int x1), (2, .int x2), (3, .int (-2))] [1, 2, 3, 0] d_Ne_bestOffer_2 rfl (by decide) rfl rfl rfl ?_
  refine sx_ldc (v := 1000000) (pc2 := 5) hX lk_3 d_Ne_bestOffer_3 rfl ?_
  refine sx_istore (pc2 := 7) hX _ [(0, .ref (K.2.2.1 16 n 0)), (1, .int x1), (2, .int x2), (3, .int (-2)), (4, .int 1000000)] [1, 2, 3, 4, 0] d_Ne_bestOffer_5 (by decide) rfl rfl rfl ?_
  refine sx_iconst (v := 0) (pc2 := 8) hX d_Ne_bestOffer_7 (by decide) rfl ?_
  refine sx_istore (pc2 := 10) hX _ [(0, .ref (K.2.2.1 16 n 0)), (1, .int x1), (2, .int x2), (3, .int (-2)), (4, .int 1000000), (5, .int 0)] [1, 2, 3, 4, 5, 0] d_Ne_bestOffer_8 (by decide) rfl rfl rfl ?_
  obtain ⟨f10, h⟩ := h
  exact g_Ne_bestOffer_b10 hX hK hE hn  f10 x1 x2 (-2) 1000000 0 _ _ h
theorem cl_En_214 {X : sx_T} {K : sx_K} {cc : ByteArray} {nL : Nat} {ret : Option FieldType} {rm : Room} {l : Launch} {pc pc2 : Nat} {lv : List (Nat × Value)} {st : List Value} {σ : sx_M} {τ : sx_L} {n : Nat} {x1 : Int32} {x2 : Int32} {Q : Int32 → sx_M → Prop} (hX : sx_C X K cc nL "SensorTree$Engine" ret rm l) (hK : kx_C K) (h : wp_Ne_bestOffer n x1 x2 σ Q) (hn : n < 25) (hR : rm_Ne_bestOffer.frames + 1 ≤ rm.frames ∧ 8 + (7 + 11) + rm_Ne_bestOffer.locals ≤ rm.locals) (hst : (st.map fun v => v.category).sum ≤ 8) (hd : decode cc pc = .ok (.invokevirtual 214, 3)) (hpc : pc + 3 = pc2) (kk : ∀ (r : Int32) (σ2 : sx_M) (τ2 : sx_L), Q r σ2 → sx_G X K nL pc2 lv (.int r :: st) (sx_H K σ2 τ2)) : sx_G X K nL pc lv (.int x2 :: .int x1 :: .ref (K.2.2.1 16 n 0) :: st) (sx_H K σ τ) :=
  sx_callVi (Q := fun r σ _ => Q r σ) (As := [.int x1, .int x2]) hX (c_Ne_bestOffer hK n x1 x2 σ τ Q hn h) (hK 16 n 0 hn (by decide)) rfl rfl lk_75 lk_76 hy_Ne_bestOffer lk_73 lk_47 lk_74 ⟨rfl, rfl⟩ hR hst rfl hd hpc kk
theorem cl_St_258 {X : sx_T} {K : sx_K} {cc : ByteArray} {nL : Nat} {ret : Option FieldType} {rm : Room} {l : Launch} {pc pc2 : Nat} {lv : List (Nat × Value)} {st : List Value} {σ : sx_M} {τ : sx_L} {n : Nat} {x1 : Int32} {x2 : Int32} {Q : Int32 → sx_M → Prop} (hX : sx_C X K cc nL "SensorTree" ret rm l) (hK : kx_C K) (h : wp_Ne_bestOffer n x1 x2 σ Q) (hn : n < 25) (hR : rm_Ne_bestOffer.frames + 1 ≤ rm.frames ∧ 8 + (7 + 11) + rm_Ne_bestOffer.locals ≤ rm.locals) (hst : (st.map fun v => v.category).sum ≤ 8) (hd : decode cc pc = .ok (.invokevirtual 258, 3)) (hpc : pc + 3 = pc2) (kk : ∀ (r : Int32) (σ2 : sx_M) (τ2 : sx_L), Q r σ2 → sx_G X K nL pc2 lv (.int r :: st) (sx_H K σ2 τ2)) : sx_G X K nL pc lv (.int x2 :: .int x1 :: .ref (K.2.2.1 16 n 0) :: st) (sx_H K σ τ) :=
  sx_callVi (Q := fun r σ _ => Q r σ) (As := [.int x1, .int x2]) hX (c_Ne_bestOffer hK n x1 x2 σ τ Q hn h) (hK 16 n 0 hn (by decide)) rfl rfl lk_75 lk_76 hy_Ne_bestOffer lk_73 lk_47 lk_332 ⟨rfl, rfl⟩ hR hst rfl hd hpc kk
def y_En_isKept : MethodName := ⟨"SensorTree$Engine", "isKept", "(II)Z"⟩
theorem hy_En_isKept : y_En_isKept.cls ≠ "java/lang/invoke/MethodHandle" ∧ y_En_isKept.cls ≠ "java/lang/invoke/VarHandle" ∧ (parseMethodDescriptor y_En_isKept.desc).map (fun d => d.parameters.length) = some 2 := by decide +kernel
theorem d_En_isKept_0 : decode prog_2_method_20_code 0 = .ok (.aload_n 0, 1) := by decide +kernel
theorem d_En_isKept_1 : decode prog_2_method_20_code 1 = .ok (.getfield 22, 3) := by decide +kernel
theorem d_En_isKept_4 : decode prog_2_method_20_code 4 = .ok (.getfield 78, 3) := by decide +kernel
theorem d_En_isKept_7 : decode prog_2_method_20_code 7 = .ok (.iload_n 1, 1) := by decide +kernel
theorem d_En_isKept_8 : decode prog_2_method_20_code 8 = .ok (.aaload, 1) := by decide +kernel
theorem d_En_isKept_9 : decode prog_2_method_20_code 9 = .ok (.getfield 137, 3) := by decide +kernel
theorem d_En_isKept_12 : decode prog_2_method_20_code 12 = .ok (.istore_n 3, 1) := by decide +kernel
theorem d_En_isKept_13 : decode prog_2_method_20_code 13 = .ok (.iload_n 3, 1) := by decide +kernel
theorem d_En_isKept_14 : decode prog_2_method_20_code 14 = .ok (.bipush (-2), 2) := by decide +kernel
theorem d_En_isKept_16 : decode prog_2_method_20_code 16 = .ok (.if_icmp .eq 9, 3) := by decide +kernel
theorem d_En_isKept_19 : decode prog_2_method_20_code 19 = .ok (.iload_n 2, 1) := by decide +kernel
theorem d_En_isKept_20 : decode prog_2_method_20_code 20 = .ok (.bipush (-2), 2) := by decide +kernel
theorem d_En_isKept_22 : decode prog_2_method_20_code 22 = .ok (.if_icmp .ne 5, 3) := by decide +kernel
theorem d_En_isKept_25 : decode prog_2_method_20_code 25 = .ok (.iconst 0, 1) := by decide +kernel
theorem d_En_isKept_26 : decode prog_2_method_20_code 26 = .ok (.ireturn, 1) := by decide +kernel
theorem d_En_isKept_27 : decode prog_2_method_20_code 27 = .ok (.aload_n 0, 1) := by decide +kernel
theorem d_En_isKept_28 : decode prog_2_method_20_code 28 = .ok (.getfield 22, 3) := by decide +kernel
theorem d_En_isKept_31 : decode prog_2_method_20_code 31 = .ok (.iload_n 1, 1) := by decide +kernel
theorem d_En_isKept_32 : decode prog_2_method_20_code 32 = .ok (.iload_n 3, 1) := by decide +kernel
theorem d_En_isKept_33 : decode prog_2_method_20_code 33 = .ok (.invokevirtual 227, 3) := by decide +kernel
theorem d_En_isKept_36 : decode prog_2_method_20_code 36 = .ok (.istore 4, 2) := by decide +kernel
theorem d_En_isKept_38 : decode prog_2_method_20_code 38 = .ok (.iload 4, 2) := by decide +kernel
theorem d_En_isKept_40 : decode prog_2_method_20_code 40 = .ok (.ldc 177, 2) := by decide +kernel
theorem d_En_isKept_42 : decode prog_2_method_20_code 42 = .ok (.if_icmp .ge 31, 3) := by decide +kernel
theorem d_En_isKept_45 : decode prog_2_method_20_code 45 = .ok (.iload 4, 2) := by decide +kernel
theorem d_En_isKept_47 : decode prog_2_method_20_code 47 = .ok (.aload_n 0, 1) := by decide +kernel
theorem d_En_isKept_48 : decode prog_2_method_20_code 48 = .ok (.getfield 22, 3) := by decide +kernel
theorem d_En_isKept_51 : decode prog_2_method_20_code 51 = .ok (.iload_n 1, 1) := by decide +kernel
theorem d_En_isKept_52 : decode prog_2_method_20_code 52 = .ok (.iload_n 2, 1) := by decide +kernel
theorem d_En_isKept_53 : decode prog_2_method_20_code 53 = .ok (.invokevirtual 227, 3) := by decide +kernel
theorem d_En_isKept_56 : decode prog_2_method_20_code 56 = .ok (.isub, 1) := by decide +kernel
theorem d_En_isKept_57 : decode prog_2_method_20_code 57 = .ok (.aload_n 0, 1) := by decide +kernel
theorem d_En_isKept_58 : decode prog_2_method_20_code 58 = .ok (.getfield 32, 3) := by decide +kernel
theorem d_En_isKept_61 : decode prog_2_method_20_code 61 = .ok (.getfield 93, 3) := by decide +kernel
theorem d_En_isKept_64 : decode prog_2_method_20_code 64 = .ok (.iconst 3, 1) := by decide +kernel
theorem d_En_isKept_65 : decode prog_2_method_20_code 65 = .ok (.iaload, 1) := by decide +kernel
theorem d_En_isKept_66 : decode prog_2_method_20_code 66 = .ok (.if_icmp .gt 7, 3) := by decide +kernel
theorem d_En_isKept_69 : decode prog_2_method_20_code 69 = .ok (.iconst 1, 1) := by decide +kernel
theorem d_En_isKept_70 : decode prog_2_method_20_code 70 = .ok (.goto 4, 3) := by decide +kernel
theorem d_En_isKept_73 : decode prog_2_method_20_code 73 = .ok (.iconst 0, 1) := by decide +kernel
theorem d_En_isKept_74 : decode prog_2_method_20_code 74 = .ok (.ireturn, 1) := by decide +kernel
def wp_En_isKept_b74 (n : Nat)  (Q : Int32 → sx_M → Prop) (w0 : Int32) (σ : sx_M) : Prop := (w0 = 0 ∨ w0 = 1) ∧ (Q w0 σ)
def wp_En_isKept_b73 (n : Nat)  (Q : Int32 → sx_M → Prop)  (σ : sx_M) : Prop := wp_En_isKept_b74 n Q 0 σ
def wp_En_isKept_b25 (n : Nat)  (Q : Int32 → sx_M → Prop)  (σ : sx_M) : Prop := Q 0 σ
def wp_En_isKept (n : Nat) (x1 : Int32) (x2 : Int32) (σ : sx_M) (Q : Int32 → sx_M → Prop) : Prop := vp_in x1 7 ∧ (if σ 27 n x1.toNatClampNeg 3 = (-2) then (wp_En_isKept_b25 n Q σ) else (if x2 = (-2) then (wp_En_isKept_b25 n Q σ) else (wp_Ne_offer n x1 (σ 27 n x1.toNatClampNeg 3) σ (fun r5 σ5 => if 1000000 ≤ r5 then (wp_En_isKept_b73 n Q σ5) else (wp_Ne_offer n x1 x2 σ5 (fun r7 σ7 => vp_in 3 9 ∧ (if σ7 14 0 0 (3 : Int32).toNatClampNeg < r5 - r7 then (wp_En_isKept_b73 n Q σ7) else (wp_En_isKept_b74 n Q 1 σ7))))))))
abbrev rm_En_isKept : Room := { frames := 2, cells := 0, slots := 0, locals := 45 }
set_option maxRecDepth 100000 in
set_option maxHeartbeats 4000000 in
theorem g_En_isKept_b74 {l : Launch} {K : sx_K} {X : sx_T} {n : Nat}  {Q : Int32 → sx_M → Prop} (hX : sx_C X K prog_2_method_20_code 5 "SensorTree$Engine" (some .boolean) rm_En_isKept l) (hK : kx_C K) (hE : sx_E X K (sx_Qi K (fun r σ _ => Q r σ))) (hn : n < 2) (w0 : Int32) (σ : sx_M) (τ : sx_L)  (h : wp_En_isKept_b74 n Q  w0 σ) : sx_G X K 5 74 [] [.int w0] (sx_H K σ τ) := by
  unfold wp_En_isKept_b74 at h
  obtain ⟨hc1, h⟩ := h
  exact sx_zret hX hE hc1 h d_En_isKept_74
set_option maxRecDepth 100000 in
set_option maxHeartbeats 4000000 in
theorem g_En_isKept_b73 {l : Launch} {K : sx_K} {X : sx_T} {n : Nat}  {Q : Int32 → sx_M → Prop} (hX : sx_C X K prog_2_method_20_code 5 "SensorTree$Engine" (some .boolean) rm_En_isKept l) (hK : kx_C K) (hE : sx_E X K (sx_Qi K (fun r σ _ => Q r σ))) (hn : n < 2)  (σ : sx_M) (τ : sx_L)  (h : wp_En_isKept_b73 n Q  σ) : sx_G X K 5 73 [] [] (sx_H K σ τ) := by
  unfold wp_En_isKept_b73 at h
  refine sx_iconst (v := 0) (pc2 := 74) hX d_En_isKept_73 (by decide) rfl ?_
  exact g_En_isKept_b74 hX hK hE hn  0 _ _ h
set_option maxRecDepth 100000 in
set_option maxHeartbeats 4000000 in
theorem g_En_isKept_b25 {l : Launch} {K : sx_K} {X : sx_T} {n : Nat}  {Q : Int32 → sx_M → Prop} (hX : sx_C X K prog_2_method_20_code 5 "SensorTree$Engine" (some .boolean) rm_En_isKept l) (hK : kx_C K) (hE : sx_E X K (sx_Qi K (fun r σ _ => Q r σ))) (hn : n < 2)  (σ : sx_M) (τ : sx_L)  (h : wp_En_isKept_b25 n Q  σ) : sx_G X K 5 25 [] [] (sx_H K σ τ) := by
  unfold wp_En_isKept_b25 at h
  refine sx_iconst (v := 0) (pc2 := 26) hX d_En_isKept_25 (by decide) rfl ?_
  exact sx_zret hX hE (by decide) h d_En_isKept_26
set_option maxRecDepth 100000 in
set_option maxHeartbeats 4000000 in
theorem c_En_isKept {l : Launch} {K : sx_K} (hK : kx_C K) (n : Nat) (x1 : Int32) (x2 : Int32) (σ : sx_M) (τ : sx_L) (Q : Int32 → sx_M → Prop) (hn : n < 2) (h : wp_En_isKept n x1 x2 σ Q) : Met l y_En_isKept (sx_wd y_En_isKept prog_2_method_20_code 5 (some .boolean)) rm_En_isKept (sx_Pc K [.ref (K.2.2.1 31 n 0), .int x1, .int x2] σ τ) (sx_Qi K (fun r σ _ => Q r σ)) 0 0 (sx_A K) := by
  refine sx_met (by decide) (Nat.le_of_ble_eq_true rfl) (fun X hX hE => ?_)
  replace hX : sx_C X K prog_2_method_20_code 5 "SensorTree$Engine" (some .boolean) rm_En_isKept l := hX
  show sx_G X K 5 0 [(0, .ref (K.2.2.1 31 n 0)), (1, .int x1), (2, .int x2)] [] (sx_H K σ τ)
  unfold wp_En_isKept at h
  refine sx_aload_n (pc2 := 1) hX 0 d_En_isKept_0 rfl rfl rfl ?_
  refine fg_En_22 (pc2 := 4) hX (hK 31 n 0 hn (by decide)) d_En_isKept_1 rfl ?_
  refine fg_En_78 (pc2 := 7) hX (hK 16 n 0 (sx_w2 hn) (by decide)) d_En_isKept_4 rfl ?_
  refine sx_iload_n (pc2 := 8) hX 1 d_En_isKept_7 rfl rfl rfl ?_
  obtain ⟨hc2, h⟩ := h
  refine sx_aald (a := K.2.2.1 27 n x1.toNatClampNeg) (pc2 := 9) hX (hK 17 n 0 (sx_w2 hn) (by decide)) 4 rfl rfl rfl hc2 d_En_isKept_8 rfl ?_
  refine fg_En_137 (pc2 := 12) hX (hK 27 n x1.toNatClampNeg (sx_w2 hn) (sx_lt hc2)) d_En_isKept_9 rfl ?_
  refine sx_istore_n (pc2 := 13) hX _ [(0, .ref (K.2.2.1 31 n 0)), (1, .int x1), (2, .int x2), (3, .int (σ 27 n x1.toNatClampNeg 3))] [1, 2, 3, 0] d_En_isKept_12 rfl (by decide) rfl rfl rfl ?_
  refine sx_iload_n (pc2 := 14) hX 3 d_En_isKept_13 rfl rfl rfl ?_
  refine sx_bipush (v := (-2)) (pc2 := 16) hX d_En_isKept_14 (by decide) rfl ?_
  refine sx_icmp_eq (tgt := 25) (pc2 := 19) hX d_En_isKept_16 (by decide) rfl (fun hc3 => ?_) (fun hc3 => ?_)
  · replace h := sx_t h hc3
    refine sx_sub [] [] rfl ?_
    exact g_En_isKept_b25 hX hK hE hn  _ _ h
  · replace h := sx_f h hc3
    refine sx_iload_n (pc2 := 20) hX 2 d_En_isKept_19 rfl rfl rfl ?_
    refine sx_bipush (v := (-2)) (pc2 := 22) hX d_En_isKept_20 (by decide) rfl ?_
    refine sx_icmp_ne (tgt := 27) (pc2 := 25) hX d_En_isKept_22 (by decide) rfl (fun hc4 => ?_) (fun hc4 => ?_)
    · replace h := sx_f h hc4
      refine sx_aload_n (pc2 := 28) hX 0 d_En_isKept_27 rfl rfl rfl ?_
      refine fg_En_22 (pc2 := 31) hX (hK 31 n 0 hn (by decide)) d_En_isKept_28 rfl ?_
      refine sx_iload_n (pc2 := 32) hX 1 d_En_isKept_31 rfl rfl rfl ?_
      refine sx_iload_n (pc2 := 33) hX 3 d_En_isKept_32 rfl rfl rfl ?_
      refine cl_En_227 (pc2 := 36) hX hK h (sx_w2 hn) ⟨Nat.le_of_ble_eq_true rfl, Nat.le_of_ble_eq_true rfl⟩ (Nat.le_of_ble_eq_true rfl) d_En_isKept_33 rfl (fun r5 σ5 τ5 h => ?_)
      refine sx_istore (pc2 := 38) hX _ [(0, .ref (K.2.2.1 31 n 0)), (1, .int x1), (2, .int x2), (3, .int (σ 27 n x1.toNatClampNeg 3)), (4, .int r5)] [1, 2, 3, 4, 0] d_En_isKept_36 (by decide) rfl rfl rfl ?_
      refine sx_iload (pc2 := 40) hX 4 d_En_isKept_38 rfl rfl ?_
      refine sx_ldc (v := 1000000) (pc2 := 42) hX lk_2 d_En_isKept_40 rfl ?_
      refine sx_icmp_ge (tgt := 73) (pc2 := 45) hX d_En_isKept_42 (by decide) rfl (fun hc6 => ?_) (fun hc6 => ?_)
      · replace h := sx_t h hc6
        refine sx_sub [] [] rfl ?_
        exact g_En_isKept_b73 hX hK hE hn  _ _ h
      · replace h := sx_f h hc6
        refine sx_iload (pc2 := 47) hX 4 d_En_isKept_45 rfl rfl ?_
        refine sx_aload_n (pc2 := 48) hX 0 d_En_isKept_47 rfl rfl rfl ?_
        refine fg_En_22 (pc2 := 51) hX (hK 31 n 0 hn (by decide)) d_En_isKept_48 rfl ?_
        refine sx_iload_n (pc2 := 52) hX 1 d_En_isKept_51 rfl rfl rfl ?_
        refine sx_iload_n (pc2 := 53) hX 2 d_En_isKept_52 rfl rfl rfl ?_
        refine cl_En_227 (pc2 := 56) hX hK h (sx_w2 hn) ⟨Nat.le_of_ble_eq_true rfl, Nat.le_of_ble_eq_true rfl⟩ (Nat.le_of_ble_eq_true rfl) d_En_isKept_53 rfl (fun r7 σ7 τ7 h => ?_)
        refine sx_isub (pc2 := 57) hX d_En_isKept_56 rfl ?_
        refine sx_aload_n (pc2 := 58) hX 0 d_En_isKept_57 rfl rfl rfl ?_
        refine fg_En_32 (pc2 := 61) hX (hK 31 n 0 hn (by decide)) d_En_isKept_58 rfl ?_
        refine fg_En_93 (pc2 := 64) hX (hK 8 0 0 (by decide) (by decide)) d_En_isKept_61 rfl ?_
        refine sx_iconst (v := 3) (pc2 := 65) hX d_En_isKept_64 (by decide) rfl ?_
        obtain ⟨hc8, h⟩ := h
        refine sx_iald (pc2 := 66) hX (hK 14 0 0 (by decide) (by decide)) rfl hc8 d_En_isKept_65 rfl ?_
        refine sx_icmp_gt (tgt := 73) (pc2 := 69) hX d_En_isKept_66 (by decide) rfl (fun hc9 => ?_) (fun hc9 => ?_)
        · replace h := sx_t h hc9
          refine sx_sub [] [] rfl ?_
          exact g_En_isKept_b73 hX hK hE hn  _ _ h
        · replace h := sx_f h hc9
          refine sx_iconst (v := 1) (pc2 := 70) hX d_En_isKept_69 (by decide) rfl ?_
          refine sx_goto (tgt := 74) hX d_En_isKept_70 (by decide) ?_
          refine sx_sub [] [] rfl ?_
          exact g_En_isKept_b74 hX hK hE hn  1 _ _ h
    · replace h := sx_t h hc4
      refine sx_sub [] [] rfl ?_
      exact g_En_isKept_b25 hX hK hE hn  _ _ h
theorem cl_En_217 {X : sx_T} {K : sx_K} {cc : ByteArray} {nL : Nat} {ret : Option FieldType} {rm : Room} {l : Launch} {pc pc2 : Nat} {lv : List (Nat × Value)} {st : List Value} {σ : sx_M} {τ : sx_L} {n : Nat} {x1 : Int32} {x2 : Int32} {Q : Int32 → sx_M → Prop} (hX : sx_C X K cc nL "SensorTree$Engine" ret rm l) (hK : kx_C K) (h : wp_En_isKept n x1 x2 σ Q) (hn : n < 2) (hR : rm_En_isKept.frames + 1 ≤ rm.frames ∧ 8 + (5 + 11) + rm_En_isKept.locals ≤ rm.locals) (hst : (st.map fun v => v.category).sum ≤ 8) (hd : decode cc pc = .ok (.invokevirtual 217, 3)) (hpc : pc + 3 = pc2) (kk : ∀ (r : Int32) (σ2 : sx_M) (τ2 : sx_L), Q r σ2 → sx_G X K nL pc2 lv (.int r :: st) (sx_H K σ2 τ2)) : sx_G X K nL pc lv (.int x2 :: .int x1 :: .ref (K.2.2.1 31 n 0) :: st) (sx_H K σ τ) :=
  sx_callVi (Q := fun r σ _ => Q r σ) (As := [.int x1, .int x2]) hX (c_En_isKept hK n x1 x2 σ τ Q hn h) (hK 31 n 0 hn (by decide)) rfl rfl lk_79 ls_19 hy_En_isKept lk_77 lk_27 lk_78 ⟨rfl, rfl⟩ hR hst rfl hd hpc kk
def y_En_settle : MethodName := ⟨"SensorTree$Engine", "settle", "(II)V"⟩
theorem hy_En_settle : y_En_settle.cls ≠ "java/lang/invoke/MethodHandle" ∧ y_En_settle.cls ≠ "java/lang/invoke/VarHandle" ∧ (parseMethodDescriptor y_En_settle.desc).map (fun d => d.parameters.length) = some 2 := by decide +kernel
theorem d_En_settle_0 : decode prog_2_method_21_code 0 = .ok (.aload_n 0, 1) := by decide +kernel
theorem d_En_settle_1 : decode prog_2_method_21_code 1 = .ok (.getfield 22, 3) := by decide +kernel
theorem d_En_settle_4 : decode prog_2_method_21_code 4 = .ok (.getfield 78, 3) := by decide +kernel
theorem d_En_settle_7 : decode prog_2_method_21_code 7 = .ok (.iload_n 1, 1) := by decide +kernel
theorem d_En_settle_8 : decode prog_2_method_21_code 8 = .ok (.aaload, 1) := by decide +kernel
theorem d_En_settle_9 : decode prog_2_method_21_code 9 = .ok (.astore_n 3, 1) := by decide +kernel
theorem d_En_settle_10 : decode prog_2_method_21_code 10 = .ok (.iload_n 2, 1) := by decide +kernel
theorem d_En_settle_11 : decode prog_2_method_21_code 11 = .ok (.bipush (-2), 2) := by decide +kernel
theorem d_En_settle_13 : decode prog_2_method_21_code 13 = .ok (.if_icmp .ne 9, 3) := by decide +kernel
theorem d_En_settle_16 : decode prog_2_method_21_code 16 = .ok (.sipush 9999, 3) := by decide +kernel
theorem d_En_settle_19 : decode prog_2_method_21_code 19 = .ok (.goto 12, 3) := by decide +kernel
theorem d_En_settle_22 : decode prog_2_method_21_code 22 = .ok (.aload_n 0, 1) := by decide +kernel
theorem d_En_settle_23 : decode prog_2_method_21_code 23 = .ok (.getfield 22, 3) := by decide +kernel
theorem d_En_settle_26 : decode prog_2_method_21_code 26 = .ok (.iload_n 1, 1) := by decide +kernel
theorem d_En_settle_27 : decode prog_2_method_21_code 27 = .ok (.iload_n 2, 1) := by decide +kernel
theorem d_En_settle_28 : decode prog_2_method_21_code 28 = .ok (.invokevirtual 227, 3) := by decide +kernel
theorem d_En_settle_31 : decode prog_2_method_21_code 31 = .ok (.istore 4, 2) := by decide +kernel
theorem d_En_settle_33 : decode prog_2_method_21_code 33 = .ok (.iload_n 2, 1) := by decide +kernel
theorem d_En_settle_34 : decode prog_2_method_21_code 34 = .ok (.bipush (-2), 2) := by decide +kernel
theorem d_En_settle_36 : decode prog_2_method_21_code 36 = .ok (.if_icmp .eq 71, 3) := by decide +kernel
theorem d_En_settle_39 : decode prog_2_method_21_code 39 = .ok (.iload 4, 2) := by decide +kernel
theorem d_En_settle_41 : decode prog_2_method_21_code 41 = .ok (.aload_n 3, 1) := by decide +kernel
theorem d_En_settle_42 : decode prog_2_method_21_code 42 = .ok (.getfield 192, 3) := by decide +kernel
theorem d_En_settle_45 : decode prog_2_method_21_code 45 = .ok (.aload_n 0, 1) := by decide +kernel
theorem d_En_settle_46 : decode prog_2_method_21_code 46 = .ok (.getfield 32, 3) := by decide +kernel
theorem d_En_settle_49 : decode prog_2_method_21_code 49 = .ok (.getfield 93, 3) := by decide +kernel
theorem d_En_settle_52 : decode prog_2_method_21_code 52 = .ok (.iconst 4, 1) := by decide +kernel
theorem d_En_settle_53 : decode prog_2_method_21_code 53 = .ok (.iaload, 1) := by decide +kernel
theorem d_En_settle_54 : decode prog_2_method_21_code 54 = .ok (.iadd, 1) := by decide +kernel
theorem d_En_settle_55 : decode prog_2_method_21_code 55 = .ok (.if_icmp .le 52, 3) := by decide +kernel
theorem d_En_settle_58 : decode prog_2_method_21_code 58 = .ok (.aload_n 3, 1) := by decide +kernel
theorem d_En_settle_59 : decode prog_2_method_21_code 59 = .ok (.bipush (-2), 2) := by decide +kernel
theorem d_En_settle_61 : decode prog_2_method_21_code 61 = .ok (.putfield 137, 3) := by decide +kernel
theorem d_En_settle_64 : decode prog_2_method_21_code 64 = .ok (.aload_n 3, 1) := by decide +kernel
theorem d_En_settle_65 : decode prog_2_method_21_code 65 = .ok (.sipush 9999, 3) := by decide +kernel
theorem d_En_settle_68 : decode prog_2_method_21_code 68 = .ok (.putfield 156, 3) := by decide +kernel
theorem d_En_settle_71 : decode prog_2_method_21_code 71 = .ok (.aload_n 3, 1) := by decide +kernel
theorem d_En_settle_72 : decode prog_2_method_21_code 72 = .ok (.sipush 9999, 3) := by decide +kernel
theorem d_En_settle_75 : decode prog_2_method_21_code 75 = .ok (.putfield 192, 3) := by decide +kernel
theorem d_En_settle_78 : decode prog_2_method_21_code 78 = .ok (.aload_n 3, 1) := by decide +kernel
theorem d_En_settle_79 : decode prog_2_method_21_code 79 = .ok (.aload_n 0, 1) := by decide +kernel
theorem d_En_settle_80 : decode prog_2_method_21_code 80 = .ok (.getfield 32, 3) := by decide +kernel
theorem d_En_settle_83 : decode prog_2_method_21_code 83 = .ok (.getfield 93, 3) := by decide +kernel
theorem d_En_settle_86 : decode prog_2_method_21_code 86 = .ok (.iconst 5, 1) := by decide +kernel
theorem d_En_settle_87 : decode prog_2_method_21_code 87 = .ok (.iaload, 1) := by decide +kernel
theorem d_En_settle_88 : decode prog_2_method_21_code 88 = .ok (.putfield 147, 3) := by decide +kernel
theorem d_En_settle_91 : decode prog_2_method_21_code 91 = .ok (.aload_n 0, 1) := by decide +kernel
theorem d_En_settle_92 : decode prog_2_method_21_code 92 = .ok (.getfield 22, 3) := by decide +kernel
theorem d_En_settle_95 : decode prog_2_method_21_code 95 = .ok (.dup, 1) := by decide +kernel
theorem d_En_settle_96 : decode prog_2_method_21_code 96 = .ok (.getfield 45, 3) := by decide +kernel
theorem d_En_settle_99 : decode prog_2_method_21_code 99 = .ok (.iconst 1, 1) := by decide +kernel
theorem d_En_settle_100 : decode prog_2_method_21_code 100 = .ok (.iadd, 1) := by decide +kernel
theorem d_En_settle_101 : decode prog_2_method_21_code 101 = .ok (.putfield 45, 3) := by decide +kernel
theorem d_En_settle_104 : decode prog_2_method_21_code 104 = .ok (.goto 27, 3) := by decide +kernel
theorem d_En_settle_107 : decode prog_2_method_21_code 107 = .ok (.aload_n 3, 1) := by decide +kernel
theorem d_En_settle_108 : decode prog_2_method_21_code 108 = .ok (.iload_n 2, 1) := by decide +kernel
theorem d_En_settle_109 : decode prog_2_method_21_code 109 = .ok (.putfield 137, 3) := by decide +kernel
theorem d_En_settle_112 : decode prog_2_method_21_code 112 = .ok (.aload_n 3, 1) := by decide +kernel
theorem d_En_settle_113 : decode prog_2_method_21_code 113 = .ok (.iload 4, 2) := by decide +kernel
theorem d_En_settle_115 : decode prog_2_method_21_code 115 = .ok (.putfield 156, 3) := by decide +kernel
theorem d_En_settle_118 : decode prog_2_method_21_code 118 = .ok (.aload_n 3, 1) := by decide +kernel
theorem d_En_settle_119 : decode prog_2_method_21_code 119 = .ok (.aload_n 3, 1) := by decide +kernel
theorem d_En_settle_120 : decode prog_2_method_21_code 120 = .ok (.getfield 192, 3) := by decide +kernel
theorem d_En_settle_123 : decode prog_2_method_21_code 123 = .ok (.iload 4, 2) := by decide +kernel
theorem d_En_settle_125 : decode prog_2_method_21_code 125 = .ok (.invokestatic 230, 3) := by decide +kernel
theorem d_En_settle_128 : decode prog_2_method_21_code 128 = .ok (.putfield 192, 3) := by decide +kernel
theorem d_En_settle_131 : decode prog_2_method_21_code 131 = .ok (.return_, 1) := by decide +kernel
def wp_En_settle_b131 (n : Nat)  (Q : sx_M → Prop)  (σ : sx_M) : Prop := Q σ
def wp_En_settle_b107 (n : Nat)  (Q : sx_M → Prop) (v2 : Int32) (v3n : Nat) (v3p : Nat) (v4 : Int32) (σ : sx_M) : Prop := ∀ σ1 : sx_M, σ1 = sx_u σ 27 v3n v3p 3 v2 → (∀ σ2 : sx_M, σ2 = sx_u σ1 27 v3n v3p 2 v4 → (∀ σ3 : sx_M, σ3 = sx_u σ2 27 v3n v3p 4 (if v4 < σ2 27 v3n v3p 4 then v4 else σ2 27 v3n v3p 4) → (wp_En_settle_b131 n Q σ3)))
def wp_En_settle_b31 (n : Nat)  (Q : sx_M → Prop) (v2 : Int32) (v3n : Nat) (v3p : Nat) (w0 : Int32) (σ : sx_M) : Prop := if v2 = (-2) then (wp_En_settle_b107 n Q v2 v3n v3p w0 σ) else (vp_in 4 9 ∧ (if w0 ≤ (σ 27 v3n v3p 4) + (σ 14 0 0 (4 : Int32).toNatClampNeg) then (wp_En_settle_b107 n Q v2 v3n v3p w0 σ) else (∀ σ7 : sx_M, σ7 = sx_u σ 27 v3n v3p 3 (-2) → (∀ σ8 : sx_M, σ8 = sx_u σ7 27 v3n v3p 2 9999 → (∀ σ9 : sx_M, σ9 = sx_u σ8 27 v3n v3p 4 9999 → (vp_in 5 9 ∧ (∀ σ11 : sx_M, σ11 = sx_u σ9 27 v3n v3p 5 (σ9 14 0 0 (5 : Int32).toNatClampNeg) → (∀ σ12 : sx_M, σ12 = sx_u σ11 16 n 0 5 ((σ11 16 n 0 5) + 1) → (wp_En_settle_b131 n Q σ12)))))))))
def wp_En_settle (n : Nat) (x1 : Int32) (x2 : Int32) (σ : sx_M) (Q : sx_M → Prop) : Prop := vp_in x1 7 ∧ (if x2 = (-2) then (wp_En_settle_b31 n Q x2 n x1.toNatClampNeg 9999 σ) else (wp_Ne_offer n x1 x2 σ (fun r15 σ15 => wp_En_settle_b31 n Q x2 n x1.toNatClampNeg r15 σ15)))
abbrev rm_En_settle : Room := { frames := 2, cells := 0, slots := 0, locals := 45 }
set_option maxRecDepth 100000 in
set_option maxHeartbeats 4000000 in
theorem g_En_settle_b131 {l : Launch} {K : sx_K} {X : sx_T} {n : Nat}  {Q : sx_M → Prop} (hX : sx_C X K prog_2_method_21_code 5 "SensorTree$Engine" none rm_En_settle l) (hK : kx_C K) (hE : sx_E X K (sx_Qv K (fun σ _ => Q σ))) (hn : n < 2)  (σ : sx_M) (τ : sx_L)  (h : wp_En_settle_b131 n Q  σ) : sx_G X K 5 131 [] [] (sx_H K σ τ) := by
  unfold wp_En_settle_b131 at h
  exact sx_vret hX hE h d_En_settle_131
set_option maxRecDepth 100000 in
set_option maxHeartbeats 4000000 in
theorem g_En_settle_b107 {l : Launch} {K : sx_K} {X : sx_T} {n : Nat}  {Q : sx_M → Prop} (hX : sx_C X K prog_2_method_21_code 5 "SensorTree$Engine" none rm_En_settle l) (hK : kx_C K) (hE : sx_E X K (sx_Qv K (fun σ _ => Q σ))) (hn : n < 2) (v2 : Int32) (v3n : Nat) (v3p : Nat) (v4 : Int32) (σ : sx_M) (τ : sx_L) (hv3n : v3n < 25) (hv3p : v3p < 7) (h : wp_En_settle_b107 n Q  v2 v3n v3p v4 σ) : sx_G X K 5 107 [(2, .int v2), (3, .ref (K.2.2.1 27 v3n v3p)), (4, .int v4)] [] (sx_H K σ τ) := by
  unfold wp_En_settle_b107 at h
  refine sx_aload_n (pc2 := 108) hX 1 d_En_settle_107 rfl rfl rfl ?_
  refine sx_iload_n (pc2 := 109) hX 0 d_En_settle_108 rfl rfl rfl ?_
  refine fp_En_137 (pc2 := 112) hX (hK 27 v3n v3p hv3n hv3p) d_En_settle_109 rfl ?_
  refine sx_nm (fun σ1 e1 => ?_)
  replace h := h σ1 e1
  refine sx_aload_n (pc2 := 113) hX 1 d_En_settle_112 rfl rfl rfl ?_
  refine sx_iload (pc2 := 115) hX 2 d_En_settle_113 rfl rfl ?_
  refine fp_En_156 (pc2 := 118) hX (hK 27 v3n v3p hv3n hv3p) d_En_settle_115 rfl ?_
  refine sx_nm (fun σ2 e2 => ?_)
  replace h := h σ2 e2
  refine sx_aload_n (pc2 := 119) hX 1 d_En_settle_118 rfl rfl rfl ?_
  refine sx_aload_n (pc2 := 120) hX 1 d_En_settle_119 rfl rfl rfl ?_
  refine fg_En_192 (pc2 := 123) hX (hK 27 v3n v3p hv3n hv3p) d_En_settle_120 rfl ?_
  refine sx_iload (pc2 := 125) hX 2 d_En_settle_123 rfl rfl ?_
  refine sx_mmin (pc2 := 128) hX lk_4 kx_mmin.1 kx_mmin.2.1 kx_mmin.2.2 ⟨Nat.le_of_ble_eq_true rfl, Nat.le_of_ble_eq_true rfl⟩ d_En_settle_125 rfl ?_
  refine fp_En_192 (pc2 := 131) hX (hK 27 v3n v3p hv3n hv3p) d_En_settle_128 rfl ?_
  refine sx_nm (fun σ3 e3 => ?_)
  replace h := h σ3 e3
  refine sx_sub [] [] rfl ?_
  exact g_En_settle_b131 hX hK hE hn  _ _ h
set_option maxRecDepth 100000 in
set_option maxHeartbeats 4000000 in
theorem g_En_settle_b31 {l : Launch} {K : sx_K} {X : sx_T} {n : Nat}  {Q : sx_M → Prop} (hX : sx_C X K prog_2_method_21_code 5 "SensorTree$Engine" none rm_En_settle l) (hK : kx_C K) (hE : sx_E X K (sx_Qv K (fun σ _ => Q σ))) (hn : n < 2) (v2 : Int32) (v3n : Nat) (v3p : Nat) (w0 : Int32) (σ : sx_M) (τ : sx_L) (hv3n : v3n < 25) (hv3p : v3p < 7) (h : wp_En_settle_b31 n Q  v2 v3n v3p w0 σ) : sx_G X K 5 31 [(0, .ref (K.2.2.1 31 n 0)), (2, .int v2), (3, .ref (K.2.2.1 27 v3n v3p))] [.int w0] (sx_H K σ τ) := by
  unfold wp_En_settle_b31 at h
  refine sx_istore (pc2 := 33) hX _ [(0, .ref (K.2.2.1 31 n 0)), (2, .int v2), (3, .ref (K.2.2.1 27 v3n v3p)), (4, .int w0)] [1, 2, 3, 0] d_En_settle_31 (by decide) rfl rfl rfl ?_
  refine sx_iload_n (pc2 := 34) hX 1 d_En_settle_33 rfl rfl rfl ?_
  refine sx_bipush (v := (-2)) (pc2 := 36) hX d_En_settle_34 (by decide) rfl ?_
  refine sx_icmp_eq (tgt := 107) (pc2 := 39) hX d_En_settle_36 (by decide) rfl (fun hc4 => ?_) (fun hc4 => ?_)
  · replace h := sx_t h hc4
    refine sx_sub [(2, .int v2), (3, .ref (K.2.2.1 27 v3n v3p)), (4, .int w0)] [1, 2, 3] rfl ?_
    exact g_En_settle_b107 hX hK hE hn  v2 v3n v3p w0 _ _ hv3n hv3p h
  · replace h := sx_f h hc4
    refine sx_iload (pc2 := 41) hX 3 d_En_settle_39 rfl rfl ?_
    refine sx_aload_n (pc2 := 42) hX 2 d_En_settle_41 rfl rfl rfl ?_
    refine fg_En_192 (pc2 := 45) hX (hK 27 v3n v3p hv3n hv3p) d_En_settle_42 rfl ?_
    refine sx_aload_n (pc2 := 46) hX 0 d_En_settle_45 rfl rfl rfl ?_
    refine fg_En_32 (pc2 := 49) hX (hK 31 n 0 hn (by decide)) d_En_settle_46 rfl ?_
    refine fg_En_93 (pc2 := 52) hX (hK 8 0 0 (by decide) (by decide)) d_En_settle_49 rfl ?_
    refine sx_iconst (v := 4) (pc2 := 53) hX d_En_settle_52 (by decide) rfl ?_
    obtain ⟨hc5, h⟩ := h
    refine sx_iald (pc2 := 54) hX (hK 14 0 0 (by decide) (by decide)) rfl hc5 d_En_settle_53 rfl ?_
    refine sx_iadd (pc2 := 55) hX d_En_settle_54 rfl ?_
    refine sx_icmp_le (tgt := 107) (pc2 := 58) hX d_En_settle_55 (by decide) rfl (fun hc6 => ?_) (fun hc6 => ?_)
    · replace h := sx_t h hc6
      refine sx_sub [(2, .int v2), (3, .ref (K.2.2.1 27 v3n v3p)), (4, .int w0)] [1, 2, 3] rfl ?_
      exact g_En_settle_b107 hX hK hE hn  v2 v3n v3p w0 _ _ hv3n hv3p h
    · replace h := sx_f h hc6
      refine sx_aload_n (pc2 := 59) hX 2 d_En_settle_58 rfl rfl rfl ?_
      refine sx_bipush (v := (-2)) (pc2 := 61) hX d_En_settle_59 (by decide) rfl ?_
      refine fp_En_137 (pc2 := 64) hX (hK 27 v3n v3p hv3n hv3p) d_En_settle_61 rfl ?_
      refine sx_nm (fun σ7 e7 => ?_)
      replace h := h σ7 e7
      refine sx_aload_n (pc2 := 65) hX 2 d_En_settle_64 rfl rfl rfl ?_
      refine sx_sipush (v := 9999) (pc2 := 68) hX d_En_settle_65 (by decide) rfl ?_
      refine fp_En_156 (pc2 := 71) hX (hK 27 v3n v3p hv3n hv3p) d_En_settle_68 rfl ?_
      refine sx_nm (fun σ8 e8 => ?_)
      replace h := h σ8 e8
      refine sx_aload_n (pc2 := 72) hX 2 d_En_settle_71 rfl rfl rfl ?_
      refine sx_sipush (v := 9999) (pc2 := 75) hX d_En_settle_72 (by decide) rfl ?_
      refine fp_En_192 (pc2 := 78) hX (hK 27 v3n v3p hv3n hv3p) d_En_settle_75 rfl ?_
      refine sx_nm (fun σ9 e9 => ?_)
      replace h := h σ9 e9
      refine sx_aload_n (pc2 := 79) hX 2 d_En_settle_78 rfl rfl rfl ?_
      refine sx_aload_n (pc2 := 80) hX 0 d_En_settle_79 rfl rfl rfl ?_
      refine fg_En_32 (pc2 := 83) hX (hK 31 n 0 hn (by decide)) d_En_settle_80 rfl ?_
      refine fg_En_93 (pc2 := 86) hX (hK 8 0 0 (by decide) (by decide)) d_En_settle_83 rfl ?_
      refine sx_iconst (v := 5) (pc2 := 87) hX d_En_settle_86 (by decide) rfl ?_
      obtain ⟨hc10, h⟩ := h
      refine sx_iald (pc2 := 88) hX (hK 14 0 0 (by decide) (by decide)) rfl hc10 d_En_settle_87 rfl ?_
      refine fp_En_147 (pc2 := 91) hX (hK 27 v3n v3p hv3n hv3p) d_En_settle_88 rfl ?_
      refine sx_nm (fun σ11 e11 => ?_)
      replace h := h σ11 e11
      refine sx_aload_n (pc2 := 92) hX 0 d_En_settle_91 rfl rfl rfl ?_
      refine fg_En_22 (pc2 := 95) hX (hK 31 n 0 hn (by decide)) d_En_settle_92 rfl ?_
      refine sx_dup (pc2 := 96) hX d_En_settle_95 rfl rfl ?_
      refine fg_En_45 (pc2 := 99) hX (hK 16 n 0 (sx_w2 hn) (by decide)) d_En_settle_96 rfl ?_
      refine sx_iconst (v := 1) (pc2 := 100) hX d_En_settle_99 (by decide) rfl ?_
      refine sx_iadd (pc2 := 101) hX d_En_settle_100 rfl ?_
      refine fp_En_45 (pc2 := 104) hX (hK 16 n 0 (sx_w2 hn) (by decide)) d_En_settle_101 rfl ?_
      refine sx_nm (fun σ12 e12 => ?_)
      replace h := h σ12 e12
      refine sx_goto (tgt := 131) hX d_En_settle_104 (by decide) ?_
      refine sx_sub [] [] rfl ?_
      exact g_En_settle_b131 hX hK hE hn  _ _ h
set_option maxRecDepth 100000 in
set_option maxHeartbeats 4000000 in
theorem c_En_settle {l : Launch} {K : sx_K} (hK : kx_C K) (n : Nat) (x1 : Int32) (x2 : Int32) (σ : sx_M) (τ : sx_L) (Q : sx_M → Prop) (hn : n < 2) (h : wp_En_settle n x1 x2 σ Q) : Met l y_En_settle (sx_wd y_En_settle prog_2_method_21_code 5 none) rm_En_settle (sx_Pc K [.ref (K.2.2.1 31 n 0), .int x1, .int x2] σ τ) (sx_Qv K (fun σ _ => Q σ)) 0 0 (sx_A K) := by
  refine sx_met (by decide) (Nat.le_of_ble_eq_true rfl) (fun X hX hE => ?_)
  replace hX : sx_C X K prog_2_method_21_code 5 "SensorTree$Engine" none rm_En_settle l := hX
  show sx_G X K 5 0 [(0, .ref (K.2.2.1 31 n 0)), (1, .int x1), (2, .int x2)] [] (sx_H K σ τ)
  unfold wp_En_settle at h
  refine sx_aload_n (pc2 := 1) hX 0 d_En_settle_0 rfl rfl rfl ?_
  refine fg_En_22 (pc2 := 4) hX (hK 31 n 0 hn (by decide)) d_En_settle_1 rfl ?_
  refine fg_En_78 (pc2 := 7) hX (hK 16 n 0 (sx_w2 hn) (by decide)) d_En_settle_4 rfl ?_
  refine sx_iload_n (pc2 := 8) hX 1 d_En_settle_7 rfl rfl rfl ?_
  obtain ⟨hc13, h⟩ := h
  refine sx_aald (a := K.2.2.1 27 n x1.toNatClampNeg) (pc2 := 9) hX (hK 17 n 0 (sx_w2 hn) (by decide)) 4 rfl rfl rfl hc13 d_En_settle_8 rfl ?_
  refine sx_astore_n (pc2 := 10) hX _ [(0, .ref (K.2.2.1 31 n 0)), (1, .int x1), (2, .int x2), (3, .ref (K.2.2.1 27 n x1.toNatClampNeg))] [1, 2, 3, 0] d_En_settle_9 rfl (by decide) rfl rfl rfl ?_
  refine sx_iload_n (pc2 := 11) hX 2 d_En_settle_10 rfl rfl rfl ?_
  refine sx_bipush (v := (-2)) (pc2 := 13) hX d_En_settle_11 (by decide) rfl ?_
  refine sx_icmp_ne (tgt := 22) (pc2 := 16) hX d_En_settle_13 (by decide) rfl (fun hc14 => ?_) (fun hc14 => ?_)
  · replace h := sx_f h hc14
    refine sx_aload_n (pc2 := 23) hX 0 d_En_settle_22 rfl rfl rfl ?_
    refine fg_En_22 (pc2 := 26) hX (hK 31 n 0 hn (by decide)) d_En_settle_23 rfl ?_
    refine sx_iload_n (pc2 := 27) hX 1 d_En_settle_26 rfl rfl rfl ?_
    refine sx_iload_n (pc2 := 28) hX 2 d_En_settle_27 rfl rfl rfl ?_
    refine cl_En_227 (pc2 := 31) hX hK h (sx_w2 hn) ⟨Nat.le_of_ble_eq_true rfl, Nat.le_of_ble_eq_true rfl⟩ (Nat.le_of_ble_eq_true rfl) d_En_settle_28 rfl (fun r15 σ15 τ15 h => ?_)
    refine sx_sub [(0, .ref (K.2.2.1 31 n 0)), (2, .int x2), (3, .ref (K.2.2.1 27 n x1.toNatClampNeg))] [0, 2, 3] rfl ?_
    exact g_En_settle_b31 hX hK hE hn  x2 n x1.toNatClampNeg r15 _ _ (sx_w2 hn) (sx_lt hc13) h
  · replace h := sx_t h hc14
    refine sx_sipush (v := 9999) (pc2 := 19) hX d_En_settle_16 (by decide) rfl ?_
    refine sx_goto (tgt := 31) hX d_En_settle_19 (by decide) ?_
    refine sx_sub [(0, .ref (K.2.2.1 31 n 0)), (2, .int x2), (3, .ref (K.2.2.1 27 n x1.toNatClampNeg))] [0, 2, 3] rfl ?_
    exact g_En_settle_b31 hX hK hE hn  x2 n x1.toNatClampNeg 9999 _ _ (sx_w2 hn) (sx_lt hc13) h
theorem cl_En_220 {X : sx_T} {K : sx_K} {cc : ByteArray} {nL : Nat} {ret : Option FieldType} {rm : Room} {l : Launch} {pc pc2 : Nat} {lv : List (Nat × Value)} {st : List Value} {σ : sx_M} {τ : sx_L} {n : Nat} {x1 : Int32} {x2 : Int32} {Q : sx_M → Prop} (hX : sx_C X K cc nL "SensorTree$Engine" ret rm l) (hK : kx_C K) (h : wp_En_settle n x1 x2 σ Q) (hn : n < 2) (hR : rm_En_settle.frames + 1 ≤ rm.frames ∧ 8 + (5 + 11) + rm_En_settle.locals ≤ rm.locals) (hst : (st.map fun v => v.category).sum ≤ 8) (hd : decode cc pc = .ok (.invokevirtual 220, 3)) (hpc : pc + 3 = pc2) (kk : ∀ (σ2 : sx_M) (τ2 : sx_L), Q σ2 → sx_G X K nL pc2 lv (st) (sx_H K σ2 τ2)) : sx_G X K nL pc lv (.int x2 :: .int x1 :: .ref (K.2.2.1 31 n 0) :: st) (sx_H K σ τ) :=
  sx_callVv (Q := fun σ _ => Q σ) (As := [.int x1, .int x2]) hX (c_En_settle hK n x1 x2 σ τ Q hn h) (hK 31 n 0 hn (by decide)) rfl rfl lk_72 ls_20 hy_En_settle lk_70 lk_27 lk_71 ⟨rfl, rfl⟩ hR hst rfl hd hpc kk
def y_En_put : MethodName := ⟨"SensorTree$Engine", "put", "(IIIIII)V"⟩
theorem hy_En_put : y_En_put.cls ≠ "java/lang/invoke/MethodHandle" ∧ y_En_put.cls ≠ "java/lang/invoke/VarHandle" ∧ (parseMethodDescriptor y_En_put.desc).map (fun d => d.parameters.length) = some 6 := by decide +kernel
theorem d_En_put_0 : decode prog_2_method_10_code 0 = .ok (.aload_n 0, 1) := by decide +kernel
theorem d_En_put_1 : decode prog_2_method_10_code 1 = .ok (.getfield 22, 3) := by decide +kernel
theorem d_En_put_4 : decode prog_2_method_10_code 4 = .ok (.getfield 54, 3) := by decide +kernel
theorem d_En_put_7 : decode prog_2_method_10_code 7 = .ok (.astore 7, 2) := by decide +kernel
theorem d_En_put_9 : decode prog_2_method_10_code 9 = .ok (.aload 7, 2) := by decide +kernel
theorem d_En_put_11 : decode prog_2_method_10_code 11 = .ok (.getfield 57, 3) := by decide +kernel
theorem d_En_put_14 : decode prog_2_method_10_code 14 = .ok (.sipush 200, 3) := by decide +kernel
theorem d_En_put_17 : decode prog_2_method_10_code 17 = .ok (.if_icmp .lt 4, 3) := by decide +kernel
theorem d_En_put_20 : decode prog_2_method_10_code 20 = .ok (.return_, 1) := by decide +kernel
theorem d_En_put_21 : decode prog_2_method_10_code 21 = .ok (.aload 7, 2) := by decide +kernel
theorem d_En_put_23 : decode prog_2_method_10_code 23 = .ok (.getfield 57, 3) := by decide +kernel
theorem d_En_put_26 : decode prog_2_method_10_code 26 = .ok (.istore 8, 2) := by decide +kernel
theorem d_En_put_28 : decode prog_2_method_10_code 28 = .ok (.aload 7, 2) := by decide +kernel
theorem d_En_put_30 : decode prog_2_method_10_code 30 = .ok (.getfield 121, 3) := by decide +kernel
theorem d_En_put_33 : decode prog_2_method_10_code 33 = .ok (.iload 8, 2) := by decide +kernel
theorem d_En_put_35 : decode prog_2_method_10_code 35 = .ok (.iload_n 1, 1) := by decide +kernel
theorem d_En_put_36 : decode prog_2_method_10_code 36 = .ok (.iastore, 1) := by decide +kernel
theorem d_En_put_37 : decode prog_2_method_10_code 37 = .ok (.aload 7, 2) := by decide +kernel
theorem d_En_put_39 : decode prog_2_method_10_code 39 = .ok (.getfield 163, 3) := by decide +kernel
theorem d_En_put_42 : decode prog_2_method_10_code 42 = .ok (.iload 8, 2) := by decide +kernel
theorem d_En_put_44 : decode prog_2_method_10_code 44 = .ok (.iload_n 2, 1) := by decide +kernel
theorem d_En_put_45 : decode prog_2_method_10_code 45 = .ok (.iastore, 1) := by decide +kernel
theorem d_En_put_46 : decode prog_2_method_10_code 46 = .ok (.aload 7, 2) := by decide +kernel
theorem d_En_put_48 : decode prog_2_method_10_code 48 = .ok (.getfield 166, 3) := by decide +kernel
theorem d_En_put_51 : decode prog_2_method_10_code 51 = .ok (.iload 8, 2) := by decide +kernel
theorem d_En_put_53 : decode prog_2_method_10_code 53 = .ok (.iload_n 3, 1) := by decide +kernel
theorem d_En_put_54 : decode prog_2_method_10_code 54 = .ok (.iastore, 1) := by decide +kernel
theorem d_En_put_55 : decode prog_2_method_10_code 55 = .ok (.aload 7, 2) := by decide +kernel
theorem d_En_put_57 : decode prog_2_method_10_code 57 = .ok (.getfield 169, 3) := by decide +kernel
theorem d_En_put_60 : decode prog_2_method_10_code 60 = .ok (.iload 8, 2) := by decide +kernel
theorem d_En_put_62 : decode prog_2_method_10_code 62 = .ok (.iload 4, 2) := by decide +kernel
theorem d_En_put_64 : decode prog_2_method_10_code 64 = .ok (.iastore, 1) := by decide +kernel
theorem d_En_put_65 : decode prog_2_method_10_code 65 = .ok (.aload 7, 2) := by decide +kernel
theorem d_En_put_67 : decode prog_2_method_10_code 67 = .ok (.getfield 172, 3) := by decide +kernel
theorem d_En_put_70 : decode prog_2_method_10_code 70 = .ok (.iload 8, 2) := by decide +kernel
theorem d_En_put_72 : decode prog_2_method_10_code 72 = .ok (.iload 5, 2) := by decide +kernel
theorem d_En_put_74 : decode prog_2_method_10_code 74 = .ok (.iastore, 1) := by decide +kernel
theorem d_En_put_75 : decode prog_2_method_10_code 75 = .ok (.aload 7, 2) := by decide +kernel
theorem d_En_put_77 : decode prog_2_method_10_code 77 = .ok (.getfield 175, 3) := by decide +kernel
theorem d_En_put_80 : decode prog_2_method_10_code 80 = .ok (.iload 8, 2) := by decide +kernel
theorem d_En_put_82 : decode prog_2_method_10_code 82 = .ok (.iload 6, 2) := by decide +kernel
theorem d_En_put_84 : decode prog_2_method_10_code 84 = .ok (.iastore, 1) := by decide +kernel
theorem d_En_put_85 : decode prog_2_method_10_code 85 = .ok (.aload 7, 2) := by decide +kernel
theorem d_En_put_87 : decode prog_2_method_10_code 87 = .ok (.dup, 1) := by decide +kernel
theorem d_En_put_88 : decode prog_2_method_10_code 88 = .ok (.getfield 57, 3) := by decide +kernel
theorem d_En_put_91 : decode prog_2_method_10_code 91 = .ok (.iconst 1, 1) := by decide +kernel
theorem d_En_put_92 : decode prog_2_method_10_code 92 = .ok (.iadd, 1) := by decide +kernel
theorem d_En_put_93 : decode prog_2_method_10_code 93 = .ok (.putfield 57, 3) := by decide +kernel
theorem d_En_put_96 : decode prog_2_method_10_code 96 = .ok (.aload_n 0, 1) := by decide +kernel
theorem d_En_put_97 : decode prog_2_method_10_code 97 = .ok (.getfield 22, 3) := by decide +kernel
theorem d_En_put_100 : decode prog_2_method_10_code 100 = .ok (.dup, 1) := by decide +kernel
theorem d_En_put_101 : decode prog_2_method_10_code 101 = .ok (.getfield 36, 3) := by decide +kernel
theorem d_En_put_104 : decode prog_2_method_10_code 104 = .ok (.iload_n 1, 1) := by decide +kernel
theorem d_En_put_105 : decode prog_2_method_10_code 105 = .ok (.ifCond .ne 7, 3) := by decide +kernel
theorem d_En_put_108 : decode prog_2_method_10_code 108 = .ok (.iconst 1, 1) := by decide +kernel
theorem d_En_put_109 : decode prog_2_method_10_code 109 = .ok (.goto 4, 3) := by decide +kernel
theorem d_En_put_112 : decode prog_2_method_10_code 112 = .ok (.iconst 0, 1) := by decide +kernel
theorem d_En_put_113 : decode prog_2_method_10_code 113 = .ok (.iadd, 1) := by decide +kernel
theorem d_En_put_114 : decode prog_2_method_10_code 114 = .ok (.putfield 36, 3) := by decide +kernel
theorem d_En_put_117 : decode prog_2_method_10_code 117 = .ok (.aload_n 0, 1) := by decide +kernel
theorem d_En_put_118 : decode prog_2_method_10_code 118 = .ok (.getfield 22, 3) := by decide +kernel
theorem d_En_put_121 : decode prog_2_method_10_code 121 = .ok (.dup, 1) := by decide +kernel
theorem d_En_put_122 : decode prog_2_method_10_code 122 = .ok (.getfield 39, 3) := by decide +kernel
theorem d_En_put_125 : decode prog_2_method_10_code 125 = .ok (.iload_n 1, 1) := by decide +kernel
theorem d_En_put_126 : decode prog_2_method_10_code 126 = .ok (.iconst 1, 1) := by decide +kernel
theorem d_En_put_127 : decode prog_2_method_10_code 127 = .ok (.if_icmp .ne 7, 3) := by decide +kernel
theorem d_En_put_130 : decode prog_2_method_10_code 130 = .ok (.iconst 1, 1) := by decide +kernel
theorem d_En_put_131 : decode prog_2_method_10_code 131 = .ok (.goto 4, 3) := by decide +kernel
theorem d_En_put_134 : decode prog_2_method_10_code 134 = .ok (.iconst 0, 1) := by decide +kernel
theorem d_En_put_135 : decode prog_2_method_10_code 135 = .ok (.iadd, 1) := by decide +kernel
theorem d_En_put_136 : decode prog_2_method_10_code 136 = .ok (.putfield 39, 3) := by decide +kernel
theorem d_En_put_139 : decode prog_2_method_10_code 139 = .ok (.aload_n 0, 1) := by decide +kernel
theorem d_En_put_140 : decode prog_2_method_10_code 140 = .ok (.getfield 22, 3) := by decide +kernel
theorem d_En_put_143 : decode prog_2_method_10_code 143 = .ok (.dup, 1) := by decide +kernel
theorem d_En_put_144 : decode prog_2_method_10_code 144 = .ok (.getfield 42, 3) := by decide +kernel
theorem d_En_put_147 : decode prog_2_method_10_code 147 = .ok (.iload_n 1, 1) := by decide +kernel
theorem d_En_put_148 : decode prog_2_method_10_code 148 = .ok (.iconst 2, 1) := by decide +kernel
theorem d_En_put_149 : decode prog_2_method_10_code 149 = .ok (.if_icmp .ne 7, 3) := by decide +kernel
theorem d_En_put_152 : decode prog_2_method_10_code 152 = .ok (.iconst 1, 1) := by decide +kernel
theorem d_En_put_153 : decode prog_2_method_10_code 153 = .ok (.goto 4, 3) := by decide +kernel
theorem d_En_put_156 : decode prog_2_method_10_code 156 = .ok (.iconst 0, 1) := by decide +kernel
theorem d_En_put_157 : decode prog_2_method_10_code 157 = .ok (.iadd, 1) := by decide +kernel
theorem d_En_put_158 : decode prog_2_method_10_code 158 = .ok (.putfield 42, 3) := by decide +kernel
theorem d_En_put_161 : decode prog_2_method_10_code 161 = .ok (.return_, 1) := by decide +kernel
def wp_En_put_b157 (n : Nat)  (Q : sx_M → Prop) (w0n : Nat) (w1 : Int32) (w2 : Int32) (σ : sx_M) : Prop := ∀ σ1 : sx_M, σ1 = sx_u σ 16 w0n 0 4 (w1 + w2) → (Q σ1)
def wp_En_put_b135 (n : Nat)  (Q : sx_M → Prop) (v1 : Int32) (w0n : Nat) (w1 : Int32) (w2 : Int32) (σ : sx_M) : Prop := ∀ σ2 : sx_M, σ2 = sx_u σ 16 w0n 0 3 (w1 + w2) → (if v1 = 2 then (wp_En_put_b157 n Q n (σ2 16 n 0 4) 1 σ2) else (wp_En_put_b157 n Q n (σ2 16 n 0 4) 0 σ2))
def wp_En_put_b113 (n : Nat)  (Q : sx_M → Prop) (v1 : Int32) (w0n : Nat) (w1 : Int32) (w2 : Int32) (σ : sx_M) : Prop := ∀ σ4 : sx_M, σ4 = sx_u σ 16 w0n 0 2 (w1 + w2) → (if v1 = 1 then (wp_En_put_b135 n Q v1 n (σ4 16 n 0 3) 1 σ4) else (wp_En_put_b135 n Q v1 n (σ4 16 n 0 3) 0 σ4))
def wp_En_put (n : Nat) (x1 : Int32) (x2 : Int32) (x3 : Int32) (x4 : Int32) (x5 : Int32) (x6 : Int32) (σ : sx_M) (Q : sx_M → Prop) : Prop := if σ 20 n 0 0 < 200 then (vp_in (σ 20 n 0 0) 200 ∧ (∀ σ8 : sx_M, σ8 = sx_u σ 21 n 0 (σ 20 n 0 0).toNatClampNeg x1 → (vp_in (σ 20 n 0 0) 200 ∧ (∀ σ10 : sx_M, σ10 = sx_u σ8 22 n 0 (σ 20 n 0 0).toNatClampNeg x2 → (vp_in (σ 20 n 0 0) 200 ∧ (∀ σ12 : sx_M, σ12 = sx_u σ10 23 n 0 (σ 20 n 0 0).toNatClampNeg x3 → (vp_in (σ 20 n 0 0) 200 ∧ (∀ σ14 : sx_M, σ14 = sx_u σ12 24 n 0 (σ 20 n 0 0).toNatClampNeg x4 → (vp_in (σ 20 n 0 0) 200 ∧ (∀ σ16 : sx_M, σ16 = sx_u σ14 25 n 0 (σ 20 n 0 0).toNatClampNeg x5 → (vp_in (σ 20 n 0 0) 200 ∧ (∀ σ18 : sx_M, σ18 = sx_u σ16 26 n 0 (σ 20 n 0 0).toNatClampNeg x6 → (∀ σ19 : sx_M, σ19 = sx_u σ18 20 n 0 0 ((σ18 20 n 0 0) + 1) → (if x1 = 0 then (wp_En_put_b113 n Q x1 n (σ19 16 n 0 2) 1 σ19) else (wp_En_put_b113 n Q x1 n (σ19 16 n 0 2) 0 σ19))))))))))))))) else (Q σ)
abbrev rm_En_put : Room := { frames := 0, cells := 0, slots := 0, locals := 0 }
set_option maxRecDepth 100000 in
set_option maxHeartbeats 4000000 in
theorem g_En_put_b157 {l : Launch} {K : sx_K} {X : sx_T} {n : Nat}  {Q : sx_M → Prop} (hX : sx_C X K prog_2_method_10_code 9 "SensorTree$Engine" none rm_En_put l) (hK : kx_C K) (hE : sx_E X K (sx_Qv K (fun σ _ => Q σ))) (hn : n < 2) (w0n : Nat) (w1 : Int32) (w2 : Int32) (σ : sx_M) (τ : sx_L) (hw0n : w0n < 25) (h : wp_En_put_b157 n Q  w0n w1 w2 σ) : sx_G X K 9 157 [] [.int w2, .int w1, .ref (K.2.2.1 16 w0n 0)] (sx_H K σ τ) := by
  unfold wp_En_put_b157 at h
  refine sx_iadd (pc2 := 158) hX d_En_put_157 rfl ?_
  refine fp_En_42 (pc2 := 161) hX (hK 16 w0n 0 hw0n (by decide)) d_En_put_158 rfl ?_
  refine sx_nm (fun σ1 e1 => ?_)
  replace h := h σ1 e1
  exact sx_vret hX hE h d_En_put_161
set_option maxRecDepth 100000 in
set_option maxHeartbeats 4000000 in
theorem g_En_put_b135 {l : Launch} {K : sx_K} {X : sx_T} {n : Nat}  {Q : sx_M → Prop} (hX : sx_C X K prog_2_method_10_code 9 "SensorTree$Engine" none rm_En_put l) (hK : kx_C K) (hE : sx_E X K (sx_Qv K (fun σ _ => Q σ))) (hn : n < 2) (v1 : Int32) (w0n : Nat) (w1 : Int32) (w2 : Int32) (σ : sx_M) (τ : sx_L) (hw0n : w0n < 25) (h : wp_En_put_b135 n Q  v1 w0n w1 w2 σ) : sx_G X K 9 135 [(0, .ref (K.2.2.1 31 n 0)), (1, .int v1)] [.int w2, .int w1, .ref (K.2.2.1 16 w0n 0)] (sx_H K σ τ) := by
  unfold wp_En_put_b135 at h
  refine sx_iadd (pc2 := 136) hX d_En_put_135 rfl ?_
  refine fp_En_39 (pc2 := 139) hX (hK 16 w0n 0 hw0n (by decide)) d_En_put_136 rfl ?_
  refine sx_nm (fun σ2 e2 => ?_)
  replace h := h σ2 e2
  refine sx_aload_n (pc2 := 140) hX 0 d_En_put_139 rfl rfl rfl ?_
  refine fg_En_22 (pc2 := 143) hX (hK 31 n 0 hn (by decide)) d_En_put_140 rfl ?_
  refine sx_dup (pc2 := 144) hX d_En_put_143 rfl rfl ?_
  refine fg_En_42 (pc2 := 147) hX (hK 16 n 0 (sx_w2 hn) (by decide)) d_En_put_144 rfl ?_
  refine sx_iload_n (pc2 := 148) hX 1 d_En_put_147 rfl rfl rfl ?_
  refine sx_iconst (v := 2) (pc2 := 149) hX d_En_put_148 (by decide) rfl ?_
  refine sx_icmp_ne (tgt := 156) (pc2 := 152) hX d_En_put_149 (by decide) rfl (fun hc3 => ?_) (fun hc3 => ?_)
  · replace h := sx_f h hc3
    refine sx_iconst (v := 0) (pc2 := 157) hX d_En_put_156 (by decide) rfl ?_
    refine sx_sub [] [] rfl ?_
    exact g_En_put_b157 hX hK hE hn  n (σ2 16 n 0 4) 0 _ _ (sx_w2 hn) h
  · replace h := sx_t h hc3
    refine sx_iconst (v := 1) (pc2 := 153) hX d_En_put_152 (by decide) rfl ?_
    refine sx_goto (tgt := 157) hX d_En_put_153 (by decide) ?_
    refine sx_sub [] [] rfl ?_
    exact g_En_put_b157 hX hK hE hn  n (σ2 16 n 0 4) 1 _ _ (sx_w2 hn) h
set_option maxRecDepth 100000 in
set_option maxHeartbeats 4000000 in
theorem g_En_put_b113 {l : Launch} {K : sx_K} {X : sx_T} {n : Nat}  {Q : sx_M → Prop} (hX : sx_C X K prog_2_method_10_code 9 "SensorTree$Engine" none rm_En_put l) (hK : kx_C K) (hE : sx_E X K (sx_Qv K (fun σ _ => Q σ))) (hn : n < 2) (v1 : Int32) (w0n : Nat) (w1 : Int32) (w2 : Int32) (σ : sx_M) (τ : sx_L) (hw0n : w0n < 25) (h : wp_En_put_b113 n Q  v1 w0n w1 w2 σ) : sx_G X K 9 113 [(0, .ref (K.2.2.1 31 n 0)), (1, .int v1)] [.int w2, .int w1, .ref (K.2.2.1 16 w0n 0)] (sx_H K σ τ) := by
  unfold wp_En_put_b113 at h
  refine sx_iadd (pc2 := 114) hX d_En_put_113 rfl ?_
  refine fp_En_36 (pc2 := 117) hX (hK 16 w0n 0 hw0n (by decide)) d_En_put_114 rfl ?_
  refine sx_nm (fun σ4 e4 => ?_)
  replace h := h σ4 e4
  refine sx_aload_n (pc2 := 118) hX 0 d_En_put_117 rfl rfl rfl ?_
  refine fg_En_22 (pc2 := 121) hX (hK 31 n 0 hn (by decide)) d_En_put_118 rfl ?_
  refine sx_dup (pc2 := 122) hX d_En_put_121 rfl rfl ?_
  refine fg_En_39 (pc2 := 125) hX (hK 16 n 0 (sx_w2 hn) (by decide)) d_En_put_122 rfl ?_
  refine sx_iload_n (pc2 := 126) hX 1 d_En_put_125 rfl rfl rfl ?_
  refine sx_iconst (v := 1) (pc2 := 127) hX d_En_put_126 (by decide) rfl ?_
  refine sx_icmp_ne (tgt := 134) (pc2 := 130) hX d_En_put_127 (by decide) rfl (fun hc5 => ?_) (fun hc5 => ?_)
  · replace h := sx_f h hc5
    refine sx_iconst (v := 0) (pc2 := 135) hX d_En_put_134 (by decide) rfl ?_
    exact g_En_put_b135 hX hK hE hn  v1 n (σ4 16 n 0 3) 0 _ _ (sx_w2 hn) h
  · replace h := sx_t h hc5
    refine sx_iconst (v := 1) (pc2 := 131) hX d_En_put_130 (by decide) rfl ?_
    refine sx_goto (tgt := 135) hX d_En_put_131 (by decide) ?_
    exact g_En_put_b135 hX hK hE hn  v1 n (σ4 16 n 0 3) 1 _ _ (sx_w2 hn) h
set_option maxRecDepth 100000 in
set_option maxHeartbeats 4000000 in
theorem c_En_put {l : Launch} {K : sx_K} (hK : kx_C K) (n : Nat) (x1 : Int32) (x2 : Int32) (x3 : Int32) (x4 : Int32) (x5 : Int32) (x6 : Int32) (σ : sx_M) (τ : sx_L) (Q : sx_M → Prop) (hn : n < 2) (h : wp_En_put n x1 x2 x3 x4 x5 x6 σ Q) : Met l y_En_put (sx_wd y_En_put prog_2_method_10_code 9 none) rm_En_put (sx_Pc K [.ref (K.2.2.1 31 n 0), .int x1, .int x2, .int x3, .int x4, .int x5, .int x6] σ τ) (sx_Qv K (fun σ _ => Q σ)) 0 0 (sx_A K) := by
  refine sx_met (by decide) (Nat.le_of_ble_eq_true rfl) (fun X hX hE => ?_)
  replace hX : sx_C X K prog_2_method_10_code 9 "SensorTree$Engine" none rm_En_put l := hX
  show sx_G X K 9 0 [(0, .ref (K.2.2.1 31 n 0)), (1, .int x1), (2, .int x2), (3, .int x3), (4, .int x4), (5, .int x5), (6, .int x6)] [] (sx_H K σ τ)
  unfold wp_En_put at h
  refine sx_aload_n (pc2 := 1) hX 0 d_En_put_0 rfl rfl rfl ?_
  refine fg_En_22 (pc2 := 4) hX (hK 31 n 0 hn (by decide)) d_En_put_1 rfl ?_
  refine fg_En_54 (pc2 := 7) hX (hK 16 n 0 (sx_w2 hn) (by decide)) d_En_put_4 rfl ?_
  refine sx_astore (pc2 := 9) hX _ [(0, .ref (K.2.2.1 31 n 0)), (1, .int x1), (2, .int x2), (3, .int x3), (4, .int x4), (5, .int x5), (6, .int x6), (7, .ref (K.2.2.1 20 n 0))] [1, 2, 3, 4, 5, 6, 7, 0] d_En_put_7 (by decide) rfl rfl rfl ?_
  refine sx_aload (pc2 := 11) hX 7 d_En_put_9 rfl rfl ?_
  refine fg_En_57 (pc2 := 14) hX (hK 20 n 0 (sx_w25 (sx_w2 hn)) (by decide)) d_En_put_11 rfl ?_
  refine sx_sipush (v := 200) (pc2 := 17) hX d_En_put_14 (by decide) rfl ?_
  refine sx_icmp_lt (tgt := 21) (pc2 := 20) hX d_En_put_17 (by decide) rfl (fun hc6 => ?_) (fun hc6 => ?_)
  · replace h := sx_t h hc6
    refine sx_aload (pc2 := 23) hX 7 d_En_put_21 rfl rfl ?_
    refine fg_En_57 (pc2 := 26) hX (hK 20 n 0 (sx_w25 (sx_w2 hn)) (by decide)) d_En_put_23 rfl ?_
    refine sx_istore (pc2 := 28) hX _ [(0, .ref (K.2.2.1 31 n 0)), (1, .int x1), (2, .int x2), (3, .int x3), (4, .int x4), (5, .int x5), (6, .int x6), (7, .ref (K.2.2.1 20 n 0)), (8, .int (σ 20 n 0 0))] [1, 2, 3, 4, 5, 6, 7, 8, 0] d_En_put_26 (by decide) rfl rfl rfl ?_
    refine sx_aload (pc2 := 30) hX 7 d_En_put_28 rfl rfl ?_
    refine fg_En_121 (pc2 := 33) hX (hK 20 n 0 (sx_w25 (sx_w2 hn)) (by decide)) d_En_put_30 rfl ?_
    refine sx_iload (pc2 := 35) hX 8 d_En_put_33 rfl rfl ?_
    refine sx_iload_n (pc2 := 36) hX 1 d_En_put_35 rfl rfl rfl ?_
    obtain ⟨hc7, h⟩ := h
    refine sx_iast (pc2 := 37) hX (hK 21 n 0 (sx_w25 (sx_w2 hn)) (by decide)) (fun _ => rfl) hc7 d_En_put_36 rfl ?_
    refine sx_nm (fun σ8 e8 => ?_)
    replace h := h σ8 e8
    refine sx_aload (pc2 := 39) hX 7 d_En_put_37 rfl rfl ?_
    refine fg_En_163 (pc2 := 42) hX (hK 20 n 0 (sx_w25 (sx_w2 hn)) (by decide)) d_En_put_39 rfl ?_
    refine sx_iload (pc2 := 44) hX 8 d_En_put_42 rfl rfl ?_
    refine sx_iload_n (pc2 := 45) hX 2 d_En_put_44 rfl rfl rfl ?_
    obtain ⟨hc9, h⟩ := h
    refine sx_iast (pc2 := 46) hX (hK 22 n 0 (sx_w25 (sx_w2 hn)) (by decide)) (fun _ => rfl) hc9 d_En_put_45 rfl ?_
    refine sx_nm (fun σ10 e10 => ?_)
    replace h := h σ10 e10
    refine sx_aload (pc2 := 48) hX 7 d_En_put_46 rfl rfl ?_
    refine fg_En_166 (pc2 := 51) hX (hK 20 n 0 (sx_w25 (sx_w2 hn)) (by decide)) d_En_put_48 rfl ?_
    refine sx_iload (pc2 := 53) hX 8 d_En_put_51 rfl rfl ?_
    refine sx_iload_n (pc2 := 54) hX 3 d_En_put_53 rfl rfl rfl ?_
    obtain ⟨hc11, h⟩ := h
    refine sx_iast (pc2 := 55) hX (hK 23 n 0 (sx_w25 (sx_w2 hn)) (by decide)) (fun _ => rfl) hc11 d_En_put_54 rfl ?_
    refine sx_nm (fun σ12 e12 => ?_)
    replace h := h σ12 e12
    refine sx_aload (pc2 := 57) hX 7 d_En_put_55 rfl rfl ?_
    refine fg_En_169 (pc2 := 60) hX (hK 20 n 0 (sx_w25 (sx_w2 hn)) (by decide)) d_En_put_57 rfl ?_
    refine sx_iload (pc2 := 62) hX 8 d_En_put_60 rfl rfl ?_
    refine sx_iload (pc2 := 64) hX 4 d_En_put_62 rfl rfl ?_
    obtain ⟨hc13, h⟩ := h
    refine sx_iast (pc2 := 65) hX (hK 24 n 0 (sx_w25 (sx_w2 hn)) (by decide)) (fun _ => rfl) hc13 d_En_put_64 rfl ?_
    refine sx_nm (fun σ14 e14 => ?_)
    replace h := h σ14 e14
    refine sx_aload (pc2 := 67) hX 7 d_En_put_65 rfl rfl ?_
    refine fg_En_172 (pc2 := 70) hX (hK 20 n 0 (sx_w25 (sx_w2 hn)) (by decide)) d_En_put_67 rfl ?_
    refine sx_iload (pc2 := 72) hX 8 d_En_put_70 rfl rfl ?_
    refine sx_iload (pc2 := 74) hX 5 d_En_put_72 rfl rfl ?_
    obtain ⟨hc15, h⟩ := h
    refine sx_iast (pc2 := 75) hX (hK 25 n 0 (sx_w25 (sx_w2 hn)) (by decide)) (fun _ => rfl) hc15 d_En_put_74 rfl ?_
    refine sx_nm (fun σ16 e16 => ?_)
    replace h := h σ16 e16
    refine sx_aload (pc2 := 77) hX 7 d_En_put_75 rfl rfl ?_
    refine fg_En_175 (pc2 := 80) hX (hK 20 n 0 (sx_w25 (sx_w2 hn)) (by decide)) d_En_put_77 rfl ?_
    refine sx_iload (pc2 := 82) hX 8 d_En_put_80 rfl rfl ?_
    refine sx_iload (pc2 := 84) hX 6 d_En_put_82 rfl rfl ?_
    obtain ⟨hc17, h⟩ := h
    refine sx_iast (pc2 := 85) hX (hK 26 n 0 (sx_w25 (sx_w2 hn)) (by decide)) (fun _ => rfl) hc17 d_En_put_84 rfl ?_
    refine sx_nm (fun σ18 e18 => ?_)
    replace h := h σ18 e18
    refine sx_aload (pc2 := 87) hX 7 d_En_put_85 rfl rfl ?_
    refine sx_dup (pc2 := 88) hX d_En_put_87 rfl rfl ?_
    refine fg_En_57 (pc2 := 91) hX (hK 20 n 0 (sx_w25 (sx_w2 hn)) (by decide)) d_En_put_88 rfl ?_
    refine sx_iconst (v := 1) (pc2 := 92) hX d_En_put_91 (by decide) rfl ?_
    refine sx_iadd (pc2 := 93) hX d_En_put_92 rfl ?_
    refine fp_En_57 (pc2 := 96) hX (hK 20 n 0 (sx_w25 (sx_w2 hn)) (by decide)) d_En_put_93 rfl ?_
    refine sx_nm (fun σ19 e19 => ?_)
    replace h := h σ19 e19
    refine sx_aload_n (pc2 := 97) hX 0 d_En_put_96 rfl rfl rfl ?_
    refine fg_En_22 (pc2 := 100) hX (hK 31 n 0 hn (by decide)) d_En_put_97 rfl ?_
    refine sx_dup (pc2 := 101) hX d_En_put_100 rfl rfl ?_
    refine fg_En_36 (pc2 := 104) hX (hK 16 n 0 (sx_w2 hn) (by decide)) d_En_put_101 rfl ?_
    refine sx_iload_n (pc2 := 105) hX 1 d_En_put_104 rfl rfl rfl ?_
    refine sx_if_ne (tgt := 112) (pc2 := 108) hX d_En_put_105 (by decide) rfl (fun hc20 => ?_) (fun hc20 => ?_)
    · replace h := sx_f h hc20
      refine sx_iconst (v := 0) (pc2 := 113) hX d_En_put_112 (by decide) rfl ?_
      refine sx_sub [(0, .ref (K.2.2.1 31 n 0)), (1, .int x1)] [0, 1] rfl ?_
      exact g_En_put_b113 hX hK hE hn  x1 n (σ19 16 n 0 2) 0 _ _ (sx_w2 hn) h
    · replace h := sx_t h hc20
      refine sx_iconst (v := 1) (pc2 := 109) hX d_En_put_108 (by decide) rfl ?_
      refine sx_goto (tgt := 113) hX d_En_put_109 (by decide) ?_
      refine sx_sub [(0, .ref (K.2.2.1 31 n 0)), (1, .int x1)] [0, 1] rfl ?_
      exact g_En_put_b113 hX hK hE hn  x1 n (σ19 16 n 0 2) 1 _ _ (sx_w2 hn) h
  · replace h := sx_f h hc6
    exact sx_vret hX hE h d_En_put_20
theorem cl_En_159 {X : sx_T} {K : sx_K} {cc : ByteArray} {nL : Nat} {ret : Option FieldType} {rm : Room} {l : Launch} {pc pc2 : Nat} {lv : List (Nat × Value)} {st : List Value} {σ : sx_M} {τ : sx_L} {n : Nat} {x1 : Int32} {x2 : Int32} {x3 : Int32} {x4 : Int32} {x5 : Int32} {x6 : Int32} {Q : sx_M → Prop} (hX : sx_C X K cc nL "SensorTree$Engine" ret rm l) (hK : kx_C K) (h : wp_En_put n x1 x2 x3 x4 x5 x6 σ Q) (hn : n < 2) (hR : rm_En_put.frames + 1 ≤ rm.frames ∧ 8 + (9 + 11) + rm_En_put.locals ≤ rm.locals) (hst : (st.map fun v => v.category).sum ≤ 8) (hd : decode cc pc = .ok (.invokevirtual 159, 3)) (hpc : pc + 3 = pc2) (kk : ∀ (σ2 : sx_M) (τ2 : sx_L), Q σ2 → sx_G X K nL pc2 lv (st) (sx_H K σ2 τ2)) : sx_G X K nL pc lv (.int x6 :: .int x5 :: .int x4 :: .int x3 :: .int x2 :: .int x1 :: .ref (K.2.2.1 31 n 0) :: st) (sx_H K σ τ) :=
  sx_callVv (Q := fun σ _ => Q σ) (As := [.int x1, .int x2, .int x3, .int x4, .int x5, .int x6]) hX (c_En_put hK n x1 x2 x3 x4 x5 x6 σ τ Q hn h) (hK 31 n 0 hn (by decide)) rfl rfl lk_63 ls_21 hy_En_put lk_61 lk_27 lk_62 ⟨rfl, rfl⟩ hR hst rfl hd hpc kk
def y_En_tellRoutes : MethodName := ⟨"SensorTree$Engine", "tellRoutes", "(III)V"⟩
theorem hy_En_tellRoutes : y_En_tellRoutes.cls ≠ "java/lang/invoke/MethodHandle" ∧ y_En_tellRoutes.cls ≠ "java/lang/invoke/VarHandle" ∧ (parseMethodDescriptor y_En_tellRoutes.desc).map (fun d => d.parameters.length) = some 3 := by decide +kernel
theorem d_En_tellRoutes_0 : decode prog_2_method_22_code 0 = .ok (.aload_n 0, 1) := by decide +kernel
theorem d_En_tellRoutes_1 : decode prog_2_method_22_code 1 = .ok (.getfield 22, 3) := by decide +kernel
theorem d_En_tellRoutes_4 : decode prog_2_method_22_code 4 = .ok (.getfield 78, 3) := by decide +kernel
theorem d_En_tellRoutes_7 : decode prog_2_method_22_code 7 = .ok (.iload_n 2, 1) := by decide +kernel
theorem d_En_tellRoutes_8 : decode prog_2_method_22_code 8 = .ok (.aaload, 1) := by decide +kernel
theorem d_En_tellRoutes_9 : decode prog_2_method_22_code 9 = .ok (.astore 4, 2) := by decide +kernel
theorem d_En_tellRoutes_11 : decode prog_2_method_22_code 11 = .ok (.iconst 0, 1) := by decide +kernel
theorem d_En_tellRoutes_12 : decode prog_2_method_22_code 12 = .ok (.istore 5, 2) := by decide +kernel
theorem d_En_tellRoutes_14 : decode prog_2_method_22_code 14 = .ok (.iload 5, 2) := by decide +kernel
theorem d_En_tellRoutes_16 : decode prog_2_method_22_code 16 = .ok (.aload_n 0, 1) := by decide +kernel
theorem d_En_tellRoutes_17 : decode prog_2_method_22_code 17 = .ok (.getfield 32, 3) := by decide +kernel
theorem d_En_tellRoutes_20 : decode prog_2_method_22_code 20 = .ok (.getfield 75, 3) := by decide +kernel
theorem d_En_tellRoutes_23 : decode prog_2_method_22_code 23 = .ok (.if_icmp .ge 40, 3) := by decide +kernel
theorem d_En_tellRoutes_26 : decode prog_2_method_22_code 26 = .ok (.aload 4, 2) := by decide +kernel
theorem d_En_tellRoutes_28 : decode prog_2_method_22_code 28 = .ok (.getfield 208, 3) := by decide +kernel
theorem d_En_tellRoutes_31 : decode prog_2_method_22_code 31 = .ok (.iload 5, 2) := by decide +kernel
theorem d_En_tellRoutes_33 : decode prog_2_method_22_code 33 = .ok (.iaload, 1) := by decide +kernel
theorem d_En_tellRoutes_34 : decode prog_2_method_22_code 34 = .ok (.bipush (-2), 2) := by decide +kernel
theorem d_En_tellRoutes_36 : decode prog_2_method_22_code 36 = .ok (.if_icmp .eq 21, 3) := by decide +kernel
theorem d_En_tellRoutes_39 : decode prog_2_method_22_code 39 = .ok (.aload_n 0, 1) := by decide +kernel
theorem d_En_tellRoutes_40 : decode prog_2_method_22_code 40 = .ok (.iload_n 1, 1) := by decide +kernel
theorem d_En_tellRoutes_41 : decode prog_2_method_22_code 41 = .ok (.iload_n 2, 1) := by decide +kernel
theorem d_En_tellRoutes_42 : decode prog_2_method_22_code 42 = .ok (.iload_n 3, 1) := by decide +kernel
theorem d_En_tellRoutes_43 : decode prog_2_method_22_code 43 = .ok (.iload 5, 2) := by decide +kernel
theorem d_En_tellRoutes_45 : decode prog_2_method_22_code 45 = .ok (.aload 4, 2) := by decide +kernel
theorem d_En_tellRoutes_47 : decode prog_2_method_22_code 47 = .ok (.getfield 211, 3) := by decide +kernel
theorem d_En_tellRoutes_50 : decode prog_2_method_22_code 50 = .ok (.iload 5, 2) := by decide +kernel
theorem d_En_tellRoutes_52 : decode prog_2_method_22_code 52 = .ok (.iaload, 1) := by decide +kernel
theorem d_En_tellRoutes_53 : decode prog_2_method_22_code 53 = .ok (.iconst 0, 1) := by decide +kernel
theorem d_En_tellRoutes_54 : decode prog_2_method_22_code 54 = .ok (.invokevirtual 159, 3) := by decide +kernel
theorem d_En_tellRoutes_57 : decode prog_2_method_22_code 57 = .ok (.iinc 5 1, 3) := by decide +kernel
theorem d_En_tellRoutes_60 : decode prog_2_method_22_code 60 = .ok (.goto (-46), 3) := by decide +kernel
theorem d_En_tellRoutes_63 : decode prog_2_method_22_code 63 = .ok (.return_, 1) := by decide +kernel
def wp_En_tellRoutes_b57 (n : Nat) (k14 : Int32 → Int32 → Int32 → Nat → Nat → Int32 → sx_M → Prop) (Q : sx_M → Prop) (v1 : Int32) (v2 : Int32) (v3 : Int32) (v4n : Nat) (v4p : Nat) (v5 : Int32) (σ : sx_M) : Prop := k14 v1 v2 v3 v4n v4p (v5 + 1) σ
def wp_En_tellRoutes_b14 (n : Nat)  (Q : sx_M → Prop) : Nat → Int32 → Int32 → Int32 → Nat → Nat → Int32 → sx_M → Prop
  | 0, _, _, _, _, _, _, _ => False
  | f + 1, v1, v2, v3, v4n, v4p, v5, σ => if σ 8 0 0 0 ≤ v5 then (Q σ) else (vp_in v5 7 ∧ (if σ 29 v4n v4p v5.toNatClampNeg = (-2) then (wp_En_tellRoutes_b57 n (wp_En_tellRoutes_b14 n Q f) Q v1 v2 v3 v4n v4p v5 σ) else (vp_in v5 7 ∧ (wp_En_put n v1 v2 v3 v5 (σ 30 v4n v4p v5.toNatClampNeg) (0 : Int32) σ (fun σ5 => wp_En_tellRoutes_b57 n (wp_En_tellRoutes_b14 n Q f) Q v1 v2 v3 v4n v4p v5 σ5)))))
def wp_En_tellRoutes (n : Nat) (x1 : Int32) (x2 : Int32) (x3 : Int32) (σ : sx_M) (Q : sx_M → Prop) : Prop := vp_in x2 7 ∧ (∃ f14, wp_En_tellRoutes_b14 n Q f14 x1 x2 x3 n x2.toNatClampNeg 0 σ)
abbrev rm_En_tellRoutes : Room := { frames := 1, cells := 0, slots := 0, locals := 28 }
set_option maxRecDepth 100000 in
set_option maxHeartbeats 4000000 in
theorem g_En_tellRoutes_b57 {l : Launch} {K : sx_K} {X : sx_T} {n : Nat} {k14 : Int32 → Int32 → Int32 → Nat → Nat → Int32 → sx_M → Prop} {Q : sx_M → Prop} (hX : sx_C X K prog_2_method_22_code 6 "SensorTree$Engine" none rm_En_tellRoutes l) (hK : kx_C K) (hE : sx_E X K (sx_Qv K (fun σ _ => Q σ))) (hn : n < 2) (hk14 : ∀ (v1 : Int32) (v2 : Int32) (v3 : Int32) (v4n : Nat) (v4p : Nat) (v5 : Int32) (σ : sx_M) (τ : sx_L) (hv4n : v4n < 25) (hv4p : v4p < 7), k14 v1 v2 v3 v4n v4p v5 σ → sx_G X K 6 14 [(0, .ref (K.2.2.1 31 n 0)), (1, .int v1), (2, .int v2), (3, .int v3), (4, .ref (K.2.2.1 27 v4n v4p)), (5, .int v5)] [] (sx_H K σ τ)) (v1 : Int32) (v2 : Int32) (v3 : Int32) (v4n : Nat) (v4p : Nat) (v5 : Int32) (σ : sx_M) (τ : sx_L) (hv4n : v4n < 25) (hv4p : v4p < 7) (h : wp_En_tellRoutes_b57 n k14 Q  v1 v2 v3 v4n v4p v5 σ) : sx_G X K 6 57 [(0, .ref (K.2.2.1 31 n 0)), (1, .int v1), (2, .int v2), (3, .int v3), (4, .ref (K.2.2.1 27 v4n v4p)), (5, .int v5)] [] (sx_H K σ τ) := by
  unfold wp_En_tellRoutes_b57 at h
  refine sx_iinc (pc2 := 60) hX 5 _ [(0, .ref (K.2.2.1 31 n 0)), (1, .int v1), (2, .int v2), (3, .int v3), (4, .ref (K.2.2.1 27 v4n v4p)), (5, .int (v5 + 1))] [1, 2, 3, 4, 5, 0] d_En_tellRoutes_57 rfl (v5 + 1) rfl (by decide) rfl rfl rfl ?_
  refine sx_goto (tgt := 14) hX d_En_tellRoutes_60 (by decide) ?_
  exact hk14 v1 v2 v3 v4n v4p (v5 + 1) _ _ hv4n hv4p h
set_option maxRecDepth 100000 in
set_option maxHeartbeats 4000000 in
theorem g_En_tellRoutes_b14 {l : Launch} {K : sx_K} {X : sx_T} {n : Nat}  {Q : sx_M → Prop} (hX : sx_C X K prog_2_method_22_code 6 "SensorTree$Engine" none rm_En_tellRoutes l) (hK : kx_C K) (hE : sx_E X K (sx_Qv K (fun σ _ => Q σ))) (hn : n < 2) : ∀ (f : Nat) (v1 : Int32) (v2 : Int32) (v3 : Int32) (v4n : Nat) (v4p : Nat) (v5 : Int32) (σ : sx_M) (τ : sx_L) (hv4n : v4n < 25) (hv4p : v4p < 7), wp_En_tellRoutes_b14 n Q f v1 v2 v3 v4n v4p v5 σ → sx_G X K 6 14 [(0, .ref (K.2.2.1 31 n 0)), (1, .int v1), (2, .int v2), (3, .int v3), (4, .ref (K.2.2.1 27 v4n v4p)), (5, .int v5)] [] (sx_H K σ τ) := by
  intro f
  induction f with
  | zero => intro v1 v2 v3 v4n v4p v5 σ τ hv4n hv4p h; exact (show False from h).elim
  | succ f ih =>
    intro v1 v2 v3 v4n v4p v5 σ τ hv4n hv4p h
    rw [wp_En_tellRoutes_b14] at h
    refine sx_iload (pc2 := 16) hX 5 d_En_tellRoutes_14 rfl rfl ?_
    refine sx_aload_n (pc2 := 17) hX 0 d_En_tellRoutes_16 rfl rfl rfl ?_
    refine fg_En_32 (pc2 := 20) hX (hK 31 n 0 hn (by decide)) d_En_tellRoutes_17 rfl ?_
    refine fg_En_75 (pc2 := 23) hX (hK 8 0 0 (by decide) (by decide)) d_En_tellRoutes_20 rfl ?_
    refine sx_icmp_ge (tgt := 63) (pc2 := 26) hX d_En_tellRoutes_23 (by decide) rfl (fun hc1 => ?_) (fun hc1 => ?_)
    · replace h := sx_t h hc1
      exact sx_vret hX hE h d_En_tellRoutes_63
    · replace h := sx_f h hc1
      refine sx_aload (pc2 := 28) hX 4 d_En_tellRoutes_26 rfl rfl ?_
      refine fg_En_208 (pc2 := 31) hX (hK 27 v4n v4p hv4n hv4p) d_En_tellRoutes_28 rfl ?_
      refine sx_iload (pc2 := 33) hX 5 d_En_tellRoutes_31 rfl rfl ?_
      obtain ⟨hc2, h⟩ := h
      refine sx_iald (pc2 := 34) hX (hK 29 v4n v4p hv4n hv4p) rfl hc2 d_En_tellRoutes_33 rfl ?_
      refine sx_bipush (v := (-2)) (pc2 := 36) hX d_En_tellRoutes_34 (by decide) rfl ?_
      refine sx_icmp_eq (tgt := 57) (pc2 := 39) hX d_En_tellRoutes_36 (by decide) rfl (fun hc3 => ?_) (fun hc3 => ?_)
      · replace h := sx_t h hc3
        exact g_En_tellRoutes_b57 hX hK hE hn ih v1 v2 v3 v4n v4p v5 _ _ hv4n hv4p h
      · replace h := sx_f h hc3
        refine sx_aload_n (pc2 := 40) hX 0 d_En_tellRoutes_39 rfl rfl rfl ?_
        refine sx_iload_n (pc2 := 41) hX 1 d_En_tellRoutes_40 rfl rfl rfl ?_
        refine sx_iload_n (pc2 := 42) hX 2 d_En_tellRoutes_41 rfl rfl rfl ?_
        refine sx_iload_n (pc2 := 43) hX 3 d_En_tellRoutes_42 rfl rfl rfl ?_
        refine sx_iload (pc2 := 45) hX 5 d_En_tellRoutes_43 rfl rfl ?_
        refine sx_aload (pc2 := 47) hX 4 d_En_tellRoutes_45 rfl rfl ?_
        refine fg_En_211 (pc2 := 50) hX (hK 27 v4n v4p hv4n hv4p) d_En_tellRoutes_47 rfl ?_
        refine sx_iload (pc2 := 52) hX 5 d_En_tellRoutes_50 rfl rfl ?_
        obtain ⟨hc4, h⟩ := h
        refine sx_iald (pc2 := 53) hX (hK 30 v4n v4p hv4n hv4p) rfl hc4 d_En_tellRoutes_52 rfl ?_
        refine sx_iconst (v := 0) (pc2 := 54) hX d_En_tellRoutes_53 (by decide) rfl ?_
        refine cl_En_159 (pc2 := 57) hX hK h hn ⟨Nat.le_of_ble_eq_true rfl, Nat.le_of_ble_eq_true rfl⟩ (Nat.le_of_ble_eq_true rfl) d_En_tellRoutes_54 rfl (fun σ5 τ5 h => ?_)
        exact g_En_tellRoutes_b57 hX hK hE hn ih v1 v2 v3 v4n v4p v5 _ _ hv4n hv4p h
set_option maxRecDepth 100000 in
set_option maxHeartbeats 4000000 in
theorem c_En_tellRoutes {l : Launch} {K : sx_K} (hK : kx_C K) (n : Nat) (x1 : Int32) (x2 : Int32) (x3 : Int32) (σ : sx_M) (τ : sx_L) (Q : sx_M → Prop) (hn : n < 2) (h : wp_En_tellRoutes n x1 x2 x3 σ Q) : Met l y_En_tellRoutes (sx_wd y_En_tellRoutes prog_2_method_22_code 6 none) rm_En_tellRoutes (sx_Pc K [.ref (K.2.2.1 31 n 0), .int x1, .int x2, .int x3] σ τ) (sx_Qv K (fun σ _ => Q σ)) 0 0 (sx_A K) := by
  refine sx_met (by decide) (Nat.le_of_ble_eq_true rfl) (fun X hX hE => ?_)
  replace hX : sx_C X K prog_2_method_22_code 6 "SensorTree$Engine" none rm_En_tellRoutes l := hX
  show sx_G X K 6 0 [(0, .ref (K.2.2.1 31 n 0)), (1, .int x1), (2, .int x2), (3, .int x3)] [] (sx_H K σ τ)
  unfold wp_En_tellRoutes at h
  refine sx_aload_n (pc2 := 1) hX 0 d_En_tellRoutes_0 rfl rfl rfl ?_
  refine fg_En_22 (pc2 := 4) hX (hK 31 n 0 hn (by decide)) d_En_tellRoutes_1 rfl ?_
  refine fg_En_78 (pc2 := 7) hX (hK 16 n 0 (sx_w2 hn) (by decide)) d_En_tellRoutes_4 rfl ?_
  refine sx_iload_n (pc2 := 8) hX 2 d_En_tellRoutes_7 rfl rfl rfl ?_
  obtain ⟨hc6, h⟩ := h
  refine sx_aald (a := K.2.2.1 27 n x2.toNatClampNeg) (pc2 := 9) hX (hK 17 n 0 (sx_w2 hn) (by decide)) 4 rfl rfl rfl hc6 d_En_tellRoutes_8 rfl ?_
  refine sx_astore (pc2 := 11) hX _ [(0, .ref (K.2.2.1 31 n 0)), (1, .int x1), (2, .int x2), (3, .int x3), (4, .ref (K.2.2.1 27 n x2.toNatClampNeg))] [1, 2, 3, 4, 0] d_En_tellRoutes_9 (by decide) rfl rfl rfl ?_
  refine sx_iconst (v := 0) (pc2 := 12) hX d_En_tellRoutes_11 (by decide) rfl ?_
  refine sx_istore (pc2 := 14) hX _ [(0, .ref (K.2.2.1 31 n 0)), (1, .int x1), (2, .int x2), (3, .int x3), (4, .ref (K.2.2.1 27 n x2.toNatClampNeg)), (5, .int 0)] [1, 2, 3, 4, 5, 0] d_En_tellRoutes_12 (by decide) rfl rfl rfl ?_
  obtain ⟨f14, h⟩ := h
  exact g_En_tellRoutes_b14 hX hK hE hn  f14 x1 x2 x3 n x2.toNatClampNeg 0 _ _ (sx_w2 hn) (sx_lt hc6) h
theorem cl_En_223 {X : sx_T} {K : sx_K} {cc : ByteArray} {nL : Nat} {ret : Option FieldType} {rm : Room} {l : Launch} {pc pc2 : Nat} {lv : List (Nat × Value)} {st : List Value} {σ : sx_M} {τ : sx_L} {n : Nat} {x1 : Int32} {x2 : Int32} {x3 : Int32} {Q : sx_M → Prop} (hX : sx_C X K cc nL "SensorTree$Engine" ret rm l) (hK : kx_C K) (h : wp_En_tellRoutes n x1 x2 x3 σ Q) (hn : n < 2) (hR : rm_En_tellRoutes.frames + 1 ≤ rm.frames ∧ 8 + (6 + 11) + rm_En_tellRoutes.locals ≤ rm.locals) (hst : (st.map fun v => v.category).sum ≤ 8) (hd : decode cc pc = .ok (.invokevirtual 223, 3)) (hpc : pc + 3 = pc2) (kk : ∀ (σ2 : sx_M) (τ2 : sx_L), Q σ2 → sx_G X K nL pc2 lv (st) (sx_H K σ2 τ2)) : sx_G X K nL pc lv (.int x3 :: .int x2 :: .int x1 :: .ref (K.2.2.1 31 n 0) :: st) (sx_H K σ τ) :=
  sx_callVv (Q := fun σ _ => Q σ) (As := [.int x1, .int x2, .int x3]) hX (c_En_tellRoutes hK n x1 x2 x3 σ τ Q hn h) (hK 31 n 0 hn (by decide)) rfl rfl lk_69 ls_22 hy_En_tellRoutes lk_67 lk_27 lk_68 ⟨rfl, rfl⟩ hR hst rfl hd hpc kk
def y_En_report : MethodName := ⟨"SensorTree$Engine", "report", "(I)V"⟩
theorem hy_En_report : y_En_report.cls ≠ "java/lang/invoke/MethodHandle" ∧ y_En_report.cls ≠ "java/lang/invoke/VarHandle" ∧ (parseMethodDescriptor y_En_report.desc).map (fun d => d.parameters.length) = some 1 := by decide +kernel
theorem d_En_report_0 : decode prog_2_method_17_code 0 = .ok (.aload_n 0, 1) := by decide +kernel
theorem d_En_report_1 : decode prog_2_method_17_code 1 = .ok (.getfield 22, 3) := by decide +kernel
theorem d_En_report_4 : decode prog_2_method_17_code 4 = .ok (.getfield 78, 3) := by decide +kernel
theorem d_En_report_7 : decode prog_2_method_17_code 7 = .ok (.iload_n 1, 1) := by decide +kernel
theorem d_En_report_8 : decode prog_2_method_17_code 8 = .ok (.aaload, 1) := by decide +kernel
theorem d_En_report_9 : decode prog_2_method_17_code 9 = .ok (.astore_n 2, 1) := by decide +kernel
theorem d_En_report_10 : decode prog_2_method_17_code 10 = .ok (.aload_n 2, 1) := by decide +kernel
theorem d_En_report_11 : decode prog_2_method_17_code 11 = .ok (.dup, 1) := by decide +kernel
theorem d_En_report_12 : decode prog_2_method_17_code 12 = .ok (.getfield 81, 3) := by decide +kernel
theorem d_En_report_15 : decode prog_2_method_17_code 15 = .ok (.iconst 1, 1) := by decide +kernel
theorem d_En_report_16 : decode prog_2_method_17_code 16 = .ok (.iadd, 1) := by decide +kernel
theorem d_En_report_17 : decode prog_2_method_17_code 17 = .ok (.putfield 81, 3) := by decide +kernel
theorem d_En_report_20 : decode prog_2_method_17_code 20 = .ok (.aload_n 0, 1) := by decide +kernel
theorem d_En_report_21 : decode prog_2_method_17_code 21 = .ok (.iconst 1, 1) := by decide +kernel
theorem d_En_report_22 : decode prog_2_method_17_code 22 = .ok (.iload_n 1, 1) := by decide +kernel
theorem d_En_report_23 : decode prog_2_method_17_code 23 = .ok (.aload_n 2, 1) := by decide +kernel
theorem d_En_report_24 : decode prog_2_method_17_code 24 = .ok (.getfield 137, 3) := by decide +kernel
theorem d_En_report_27 : decode prog_2_method_17_code 27 = .ok (.iload_n 1, 1) := by decide +kernel
theorem d_En_report_28 : decode prog_2_method_17_code 28 = .ok (.aload_n 2, 1) := by decide +kernel
theorem d_En_report_29 : decode prog_2_method_17_code 29 = .ok (.getfield 81, 3) := by decide +kernel
theorem d_En_report_32 : decode prog_2_method_17_code 32 = .ok (.iconst 0, 1) := by decide +kernel
theorem d_En_report_33 : decode prog_2_method_17_code 33 = .ok (.invokevirtual 159, 3) := by decide +kernel
theorem d_En_report_36 : decode prog_2_method_17_code 36 = .ok (.return_, 1) := by decide +kernel
def wp_En_report (n : Nat) (x1 : Int32) (σ : sx_M) (Q : sx_M → Prop) : Prop := vp_in x1 7 ∧ (∀ σ2 : sx_M, σ2 = sx_u σ 27 n x1.toNatClampNeg 6 ((σ 27 n x1.toNatClampNeg 6) + 1) → (wp_En_put n (1 : Int32) x1 (σ2 27 n x1.toNatClampNeg 3) x1 (σ2 27 n x1.toNatClampNeg 6) (0 : Int32) σ2 (fun σ3 => Q σ3)))
abbrev rm_En_report : Room := { frames := 1, cells := 0, slots := 0, locals := 28 }
set_option maxRecDepth 100000 in
set_option maxHeartbeats 4000000 in
theorem c_En_report {l : Launch} {K : sx_K} (hK : kx_C K) (n : Nat) (x1 : Int32) (σ : sx_M) (τ : sx_L) (Q : sx_M → Prop) (hn : n < 2) (h : wp_En_report n x1 σ Q) : Met l y_En_report (sx_wd y_En_report prog_2_method_17_code 3 none) rm_En_report (sx_Pc K [.ref (K.2.2.1 31 n 0), .int x1] σ τ) (sx_Qv K (fun σ _ => Q σ)) 0 0 (sx_A K) := by
  refine sx_met (by decide) (Nat.le_of_ble_eq_true rfl) (fun X hX hE => ?_)
  replace hX : sx_C X K prog_2_method_17_code 3 "SensorTree$Engine" none rm_En_report l := hX
  show sx_G X K 3 0 [(0, .ref (K.2.2.1 31 n 0)), (1, .int x1)] [] (sx_H K σ τ)
  unfold wp_En_report at h
  refine sx_aload_n (pc2 := 1) hX 0 d_En_report_0 rfl rfl rfl ?_
  refine fg_En_22 (pc2 := 4) hX (hK 31 n 0 hn (by decide)) d_En_report_1 rfl ?_
  refine fg_En_78 (pc2 := 7) hX (hK 16 n 0 (sx_w2 hn) (by decide)) d_En_report_4 rfl ?_
  refine sx_iload_n (pc2 := 8) hX 1 d_En_report_7 rfl rfl rfl ?_
  obtain ⟨hc1, h⟩ := h
  refine sx_aald (a := K.2.2.1 27 n x1.toNatClampNeg) (pc2 := 9) hX (hK 17 n 0 (sx_w2 hn) (by decide)) 4 rfl rfl rfl hc1 d_En_report_8 rfl ?_
  refine sx_astore_n (pc2 := 10) hX _ [(0, .ref (K.2.2.1 31 n 0)), (1, .int x1), (2, .ref (K.2.2.1 27 n x1.toNatClampNeg))] [1, 2, 0] d_En_report_9 rfl (by decide) rfl rfl rfl ?_
  refine sx_aload_n (pc2 := 11) hX 2 d_En_report_10 rfl rfl rfl ?_
  refine sx_dup (pc2 := 12) hX d_En_report_11 rfl rfl ?_
  refine fg_En_81 (pc2 := 15) hX (hK 27 n x1.toNatClampNeg (sx_w2 hn) (sx_lt hc1)) d_En_report_12 rfl ?_
  refine sx_iconst (v := 1) (pc2 := 16) hX d_En_report_15 (by decide) rfl ?_
  refine sx_iadd (pc2 := 17) hX d_En_report_16 rfl ?_
  refine fp_En_81 (pc2 := 20) hX (hK 27 n x1.toNatClampNeg (sx_w2 hn) (sx_lt hc1)) d_En_report_17 rfl ?_
  refine sx_nm (fun σ2 e2 => ?_)
  replace h := h σ2 e2
  refine sx_aload_n (pc2 := 21) hX 0 d_En_report_20 rfl rfl rfl ?_
  refine sx_iconst (v := 1) (pc2 := 22) hX d_En_report_21 (by decide) rfl ?_
  refine sx_iload_n (pc2 := 23) hX 1 d_En_report_22 rfl rfl rfl ?_
  refine sx_aload_n (pc2 := 24) hX 2 d_En_report_23 rfl rfl rfl ?_
  refine fg_En_137 (pc2 := 27) hX (hK 27 n x1.toNatClampNeg (sx_w2 hn) (sx_lt hc1)) d_En_report_24 rfl ?_
  refine sx_iload_n (pc2 := 28) hX 1 d_En_report_27 rfl rfl rfl ?_
  refine sx_aload_n (pc2 := 29) hX 2 d_En_report_28 rfl rfl rfl ?_
  refine fg_En_81 (pc2 := 32) hX (hK 27 n x1.toNatClampNeg (sx_w2 hn) (sx_lt hc1)) d_En_report_29 rfl ?_
  refine sx_iconst (v := 0) (pc2 := 33) hX d_En_report_32 (by decide) rfl ?_
  refine cl_En_159 (pc2 := 36) hX hK h hn ⟨Nat.le_of_ble_eq_true rfl, Nat.le_of_ble_eq_true rfl⟩ (Nat.le_of_ble_eq_true rfl) d_En_report_33 rfl (fun σ3 τ3 h => ?_)
  exact sx_vret hX hE h d_En_report_36
theorem cl_En_144 {X : sx_T} {K : sx_K} {cc : ByteArray} {nL : Nat} {ret : Option FieldType} {rm : Room} {l : Launch} {pc pc2 : Nat} {lv : List (Nat × Value)} {st : List Value} {σ : sx_M} {τ : sx_L} {n : Nat} {x1 : Int32} {Q : sx_M → Prop} (hX : sx_C X K cc nL "SensorTree$Engine" ret rm l) (hK : kx_C K) (h : wp_En_report n x1 σ Q) (hn : n < 2) (hR : rm_En_report.frames + 1 ≤ rm.frames ∧ 8 + (3 + 11) + rm_En_report.locals ≤ rm.locals) (hst : (st.map fun v => v.category).sum ≤ 8) (hd : decode cc pc = .ok (.invokevirtual 144, 3)) (hpc : pc + 3 = pc2) (kk : ∀ (σ2 : sx_M) (τ2 : sx_L), Q σ2 → sx_G X K nL pc2 lv (st) (sx_H K σ2 τ2)) : sx_G X K nL pc lv (.int x1 :: .ref (K.2.2.1 31 n 0) :: st) (sx_H K σ τ) :=
  sx_callVv (Q := fun σ _ => Q σ) (As := [.int x1]) hX (c_En_report hK n x1 σ τ Q hn h) (hK 31 n 0 hn (by decide)) rfl rfl lk_66 ls_23 hy_En_report lk_64 lk_27 lk_65 ⟨rfl, rfl⟩ hR hst rfl hd hpc kk
