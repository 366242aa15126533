def y_Ne_comesTo : MethodName := ⟨"SensorTree$Net", "comesTo", "(II)Z"⟩
theorem hy_Ne_comesTo : y_Ne_comesTo.cls ≠ "java/lang/invoke/MethodHandle" ∧ y_Ne_comesTo.cls ≠ "java/lang/invoke/VarHandle" ∧ (parseMethodDescriptor y_Ne_comesTo.desc).map (fun d => d.parameters.length) = some 2 := by decide +kernel
theorem d_Ne_comesTo_0 : decode prog_5_method_8_code 0 = .ok (.aload_n 0, 1) := by decide +kernel
theorem d_Ne_comesTo_1 : decode prog_5_method_8_code 1 = .ok (.getfield 35, 3) := by decide +kernel
theorem d_Ne_comesTo_4 : decode prog_5_method_8_code 4 = .ok (.iload_n 1, 1) := by decide +kernel
theorem d_Ne_comesTo_5 : decode prog_5_method_8_code 5 = .ok (.aaload, 1) := by decide +kernel
theorem d_Ne_comesTo_6 : decode prog_5_method_8_code 6 = .ok (.getfield 102, 3) := by decide +kernel
theorem d_Ne_comesTo_9 : decode prog_5_method_8_code 9 = .ok (.istore_n 3, 1) := by decide +kernel
theorem d_Ne_comesTo_10 : decode prog_5_method_8_code 10 = .ok (.iconst 0, 1) := by decide +kernel
theorem d_Ne_comesTo_11 : decode prog_5_method_8_code 11 = .ok (.istore 4, 2) := by decide +kernel
theorem d_Ne_comesTo_13 : decode prog_5_method_8_code 13 = .ok (.iload 4, 2) := by decide +kernel
theorem d_Ne_comesTo_15 : decode prog_5_method_8_code 15 = .ok (.bipush 7, 2) := by decide +kernel
theorem d_Ne_comesTo_17 : decode prog_5_method_8_code 17 = .ok (.if_icmp .ge 37, 3) := by decide +kernel
theorem d_Ne_comesTo_20 : decode prog_5_method_8_code 20 = .ok (.aload_n 0, 1) := by decide +kernel
theorem d_Ne_comesTo_21 : decode prog_5_method_8_code 21 = .ok (.getfield 53, 3) := by decide +kernel
theorem d_Ne_comesTo_24 : decode prog_5_method_8_code 24 = .ok (.iload_n 3, 1) := by decide +kernel
theorem d_Ne_comesTo_25 : decode prog_5_method_8_code 25 = .ok (.invokevirtual 105, 3) := by decide +kernel
theorem d_Ne_comesTo_28 : decode prog_5_method_8_code 28 = .ok (.ifCond .eq 26, 3) := by decide +kernel
theorem d_Ne_comesTo_31 : decode prog_5_method_8_code 31 = .ok (.iload_n 3, 1) := by decide +kernel
theorem d_Ne_comesTo_32 : decode prog_5_method_8_code 32 = .ok (.iload_n 2, 1) := by decide +kernel
theorem d_Ne_comesTo_33 : decode prog_5_method_8_code 33 = .ok (.if_icmp .ne 5, 3) := by decide +kernel
theorem d_Ne_comesTo_36 : decode prog_5_method_8_code 36 = .ok (.iconst 1, 1) := by decide +kernel
theorem d_Ne_comesTo_37 : decode prog_5_method_8_code 37 = .ok (.ireturn, 1) := by decide +kernel
theorem d_Ne_comesTo_38 : decode prog_5_method_8_code 38 = .ok (.aload_n 0, 1) := by decide +kernel
theorem d_Ne_comesTo_39 : decode prog_5_method_8_code 39 = .ok (.getfield 35, 3) := by decide +kernel
theorem d_Ne_comesTo_42 : decode prog_5_method_8_code 42 = .ok (.iload_n 3, 1) := by decide +kernel
theorem d_Ne_comesTo_43 : decode prog_5_method_8_code 43 = .ok (.aaload, 1) := by decide +kernel
theorem d_Ne_comesTo_44 : decode prog_5_method_8_code 44 = .ok (.getfield 102, 3) := by decide +kernel
theorem d_Ne_comesTo_47 : decode prog_5_method_8_code 47 = .ok (.istore_n 3, 1) := by decide +kernel
theorem d_Ne_comesTo_48 : decode prog_5_method_8_code 48 = .ok (.iinc 4 1, 3) := by decide +kernel
theorem d_Ne_comesTo_51 : decode prog_5_method_8_code 51 = .ok (.goto (-38), 3) := by decide +kernel
theorem d_Ne_comesTo_54 : decode prog_5_method_8_code 54 = .ok (.iconst 0, 1) := by decide +kernel
theorem d_Ne_comesTo_55 : decode prog_5_method_8_code 55 = .ok (.ireturn, 1) := by decide +kernel
def wp_Ne_comesTo_b54 (n : Nat)  (Q : Int32 → sx_M → Prop)  (σ : sx_M) : Prop := Q 0 σ
def wp_Ne_comesTo_b13 (n : Nat)  (Q : Int32 → sx_M → Prop) : Nat → Int32 → Int32 → Int32 → sx_M → Prop
  | 0, _, _, _, _ => False
  | f + 1, v2, v3, v4, σ => if 7 ≤ v4 then (wp_Ne_comesTo_b54 n Q σ) else (wp_Pl_isPost 0 v3 σ (fun r2 σ2 => if r2 = 0 then (wp_Ne_comesTo_b54 n Q σ2) else (if v3 = v2 then (Q 1 σ2) else (vp_in v3 7 ∧ (wp_Ne_comesTo_b13 n Q f v2 (σ2 27 n v3.toNatClampNeg 3) (v4 + 1) σ2)))))
def wp_Ne_comesTo (n : Nat) (x1 : Int32) (x2 : Int32) (σ : sx_M) (Q : Int32 → sx_M → Prop) : Prop := vp_in x1 7 ∧ (∃ f13, wp_Ne_comesTo_b13 n Q f13 x2 (σ 27 n x1.toNatClampNeg 3) 0 σ)
abbrev rm_Ne_comesTo : Room := { frames := 1, cells := 0, slots := 0, locals := 21 }
set_option maxRecDepth 100000 in
set_option maxHeartbeats 4000000 in
theorem g_Ne_comesTo_b54 {l : Launch} {K : sx_K} {X : sx_T} {n : Nat}  {Q : Int32 → sx_M → Prop} (hX : sx_C X K prog_5_method_8_code 5 "SensorTree$Net" (some .boolean) rm_Ne_comesTo l) (hK : kx_C K) (hE : sx_E X K (sx_Qi K (fun r σ _ => Q r σ))) (hn : n < 25)  (σ : sx_M) (τ : sx_L)  (h : wp_Ne_comesTo_b54 n Q  σ) : sx_G X K 5 54 [] [] (sx_H K σ τ) := by
  unfold wp_Ne_comesTo_b54 at h
  refine sx_iconst (v := 0) (pc2 := 55) hX d_Ne_comesTo_54 (by decide) rfl ?_
  exact sx_zret hX hE (by decide) h d_Ne_comesTo_55
set_option maxRecDepth 100000 in
set_option maxHeartbeats 4000000 in
theorem g_Ne_comesTo_b13 {l : Launch} {K : sx_K} {X : sx_T} {n : Nat}  {Q : Int32 → sx_M → Prop} (hX : sx_C X K prog_5_method_8_code 5 "SensorTree$Net" (some .boolean) rm_Ne_comesTo l) (hK : kx_C K) (hE : sx_E X K (sx_Qi K (fun r σ _ => Q r σ))) (hn : n < 25) : ∀ (f : Nat) (v2 : Int32) (v3 : Int32) (v4 : Int32) (σ : sx_M) (τ : sx_L) , wp_Ne_comesTo_b13 n Q f v2 v3 v4 σ → sx_G X K 5 13 [(0, .ref (K.2.2.1 16 n 0)), (2, .int v2), (3, .int v3), (4, .int v4)] [] (sx_H K σ τ) := by
  intro f
  induction f with
  | zero => intro v2 v3 v4 σ τ h; exact (show False from h).elim
  | succ f ih =>
    intro v2 v3 v4 σ τ h
    rw [wp_Ne_comesTo_b13] at h
    refine sx_iload (pc2 := 15) hX 3 d_Ne_comesTo_13 rfl rfl ?_
    refine sx_bipush (v := 7) (pc2 := 17) hX d_Ne_comesTo_15 (by decide) rfl ?_
    refine sx_icmp_ge (tgt := 54) (pc2 := 20) hX d_Ne_comesTo_17 (by decide) rfl (fun hc1 => ?_) (fun hc1 => ?_)
    · replace h := sx_t h hc1
      refine sx_sub [] [] rfl ?_
      exact g_Ne_comesTo_b54 hX hK hE hn  _ _ h
    · replace h := sx_f h hc1
      refine sx_aload_n (pc2 := 21) hX 0 d_Ne_comesTo_20 rfl rfl rfl ?_
      refine fg_Ne_53 (pc2 := 24) hX (hK 16 n 0 hn (by decide)) d_Ne_comesTo_21 rfl ?_
      refine sx_iload_n (pc2 := 25) hX 2 d_Ne_comesTo_24 rfl rfl rfl ?_
      refine cl_Ne_105 (pc2 := 28) hX hK h (by decide) ⟨Nat.le_of_ble_eq_true rfl, Nat.le_of_ble_eq_true rfl⟩ (Nat.le_of_ble_eq_true rfl) d_Ne_comesTo_25 rfl (fun r2 σ2 τ2 h => ?_)
      refine sx_if_eq (tgt := 54) (pc2 := 31) hX d_Ne_comesTo_28 (by decide) rfl (fun hc3 => ?_) (fun hc3 => ?_)
      · replace h := sx_t h hc3
        refine sx_sub [] [] rfl ?_
        exact g_Ne_comesTo_b54 hX hK hE hn  _ _ h
      · replace h := sx_f h hc3
        refine sx_iload_n (pc2 := 32) hX 2 d_Ne_comesTo_31 rfl rfl rfl ?_
        refine sx_iload_n (pc2 := 33) hX 1 d_Ne_comesTo_32 rfl rfl rfl ?_
        refine sx_icmp_ne (tgt := 38) (pc2 := 36) hX d_Ne_comesTo_33 (by decide) rfl (fun hc4 => ?_) (fun hc4 => ?_)
        · replace h := sx_f h hc4
          refine sx_aload_n (pc2 := 39) hX 0 d_Ne_comesTo_38 rfl rfl rfl ?_
          refine fg_Ne_35 (pc2 := 42) hX (hK 16 n 0 hn (by decide)) d_Ne_comesTo_39 rfl ?_
          refine sx_iload_n (pc2 := 43) hX 2 d_Ne_comesTo_42 rfl rfl rfl ?_
          obtain ⟨hc5, h⟩ := h
          refine sx_aald (a := K.2.2.1 27 n v3.toNatClampNeg) (pc2 := 44) hX (hK 17 n 0 hn (by decide)) 4 rfl rfl rfl hc5 d_Ne_comesTo_43 rfl ?_
          refine fg_Ne_102 (pc2 := 47) hX (hK 27 n v3.toNatClampNeg hn (sx_lt hc5)) d_Ne_comesTo_44 rfl ?_
          refine sx_istore_n (pc2 := 48) hX _ [(0, .ref (K.2.2.1 16 n 0)), (2, .int v2), (3, .int (σ2 27 n v3.toNatClampNeg 3)), (4, .int v4)] [1, 2, 0, 3] d_Ne_comesTo_47 rfl (by decide) rfl rfl rfl ?_
          refine sx_iinc (pc2 := 51) hX 3 _ [(0, .ref (K.2.2.1 16 n 0)), (2, .int v2), (3, .int (σ2 27 n v3.toNatClampNeg 3)), (4, .int (v4 + 1))] [1, 2, 3, 0] d_Ne_comesTo_48 rfl (v4 + 1) rfl (by decide) rfl rfl rfl ?_
          refine sx_goto (tgt := 13) hX d_Ne_comesTo_51 (by decide) ?_
          exact ih v2 (σ2 27 n v3.toNatClampNeg 3) (v4 + 1) _ _ h
        · replace h := sx_t h hc4
          refine sx_iconst (v := 1) (pc2 := 37) hX d_Ne_comesTo_36 (by decide) rfl ?_
          exact sx_zret hX hE (by decide) h d_Ne_comesTo_37
set_option maxRecDepth 100000 in
set_option maxHeartbeats 4000000 in
theorem c_Ne_comesTo {l : Launch} {K : sx_K} (hK : kx_C K) (n : Nat) (x1 : Int32) (x2 : Int32) (σ : sx_M) (τ : sx_L) (Q : Int32 → sx_M → Prop) (hn : n < 25) (h : wp_Ne_comesTo n x1 x2 σ Q) : Met l y_Ne_comesTo (sx_wd y_Ne_comesTo prog_5_method_8_code 5 (some .boolean)) rm_Ne_comesTo (sx_Pc K [.ref (K.2.2.1 16 n 0), .int x1, .int x2] σ τ) (sx_Qi K (fun r σ _ => Q r σ)) 0 0 (sx_A K) := by
  refine sx_met (by decide) (Nat.le_of_ble_eq_true rfl) (fun X hX hE => ?_)
  replace hX : sx_C X K prog_5_method_8_code 5 "SensorTree$Net" (some .boolean) rm_Ne_comesTo l := hX
  show sx_G X K 5 0 [(0, .ref (K.2.2.1 16 n 0)), (1, .int x1), (2, .int x2)] [] (sx_H K σ τ)
  unfold wp_Ne_comesTo at h
  refine sx_aload_n (pc2 := 1) hX 0 d_Ne_comesTo_0 rfl rfl rfl ?_
  refine fg_Ne_35 (pc2 := 4) hX (hK 16 n 0 hn (by decide)) d_Ne_comesTo_1 rfl ?_
  refine sx_iload_n (pc2 := 5) hX 1 d_Ne_comesTo_4 rfl rfl rfl ?_
  obtain ⟨hc6, h⟩ := h
  refine sx_aald (a := K.2.2.1 27 n x1.toNatClampNeg) (pc2 := 6) hX (hK 17 n 0 hn (by decide)) 4 rfl rfl rfl hc6 d_Ne_comesTo_5 rfl ?_
  refine fg_Ne_102 (pc2 := 9) hX (hK 27 n x1.toNatClampNeg hn (sx_lt hc6)) d_Ne_comesTo_6 rfl ?_
  refine sx_istore_n (pc2 := 10) hX _ [(0, .ref (K.2.2.1 16 n 0)), (1, .int x1), (2, .int x2), (3, .int (σ 27 n x1.toNatClampNeg 3))] [1, 2, 3, 0] d_Ne_comesTo_9 rfl (by decide) rfl rfl rfl ?_
  refine sx_iconst (v := 0) (pc2 := 11) hX d_Ne_comesTo_10 (by decide) rfl ?_
  refine sx_istore (pc2 := 13) hX _ [(0, .ref (K.2.2.1 16 n 0)), (1, .int x1), (2, .int x2), (3, .int (σ 27 n x1.toNatClampNeg 3)), (4, .int 0)] [1, 2, 3, 4, 0] d_Ne_comesTo_11 (by decide) rfl rfl rfl ?_
  refine sx_sub [(0, .ref (K.2.2.1 16 n 0)), (2, .int x2), (3, .int (σ 27 n x1.toNatClampNeg 3)), (4, .int 0)] [0, 2, 3, 4] rfl ?_
  obtain ⟨f13, h⟩ := h
  exact g_Ne_comesTo_b13 hX hK hE hn  f13 x2 (σ 27 n x1.toNatClampNeg 3) 0 _ _ h
theorem cl_Tr_75 {X : sx_T} {K : sx_K} {cc : ByteArray} {nL : Nat} {ret : Option FieldType} {rm : Room} {l : Launch} {pc pc2 : Nat} {lv : List (Nat × Value)} {st : List Value} {σ : sx_M} {τ : sx_L} {n : Nat} {x1 : Int32} {x2 : Int32} {Q : Int32 → sx_M → Prop} (hX : sx_C X K cc nL "SensorTree$Truth" ret rm l) (hK : kx_C K) (h : wp_Ne_comesTo n x1 x2 σ Q) (hn : n < 25) (hR : rm_Ne_comesTo.frames + 1 ≤ rm.frames ∧ 8 + (5 + 11) + rm_Ne_comesTo.locals ≤ rm.locals) (hst : (st.map fun v => v.category).sum ≤ 8) (hd : decode cc pc = .ok (.invokevirtual 75, 3)) (hpc : pc + 3 = pc2) (kk : ∀ (r : Int32) (σ2 : sx_M) (τ2 : sx_L), Q r σ2 → sx_G X K nL pc2 lv (.int r :: st) (sx_H K σ2 τ2)) : sx_G X K nL pc lv (.int x2 :: .int x1 :: .ref (K.2.2.1 16 n 0) :: st) (sx_H K σ τ) :=
  sx_callVi (Q := fun r σ _ => Q r σ) (As := [.int x1, .int x2]) hX (c_Ne_comesTo hK n x1 x2 σ τ Q hn h) (hK 16 n 0 hn (by decide)) rfl rfl lk_238 lk_239 hy_Ne_comesTo lk_236 lk_47 lk_237 ⟨rfl, rfl⟩ hR hst rfl hd hpc kk
theorem cl_St_232 {X : sx_T} {K : sx_K} {cc : ByteArray} {nL : Nat} {ret : Option FieldType} {rm : Room} {l : Launch} {pc pc2 : Nat} {lv : List (Nat × Value)} {st : List Value} {σ : sx_M} {τ : sx_L} {n : Nat} {x1 : Int32} {x2 : Int32} {Q : Int32 → sx_M → Prop} (hX : sx_C X K cc nL "SensorTree" ret rm l) (hK : kx_C K) (h : wp_Ne_comesTo n x1 x2 σ Q) (hn : n < 25) (hR : rm_Ne_comesTo.frames + 1 ≤ rm.frames ∧ 8 + (5 + 11) + rm_Ne_comesTo.locals ≤ rm.locals) (hst : (st.map fun v => v.category).sum ≤ 8) (hd : decode cc pc = .ok (.invokevirtual 232, 3)) (hpc : pc + 3 = pc2) (kk : ∀ (r : Int32) (σ2 : sx_M) (τ2 : sx_L), Q r σ2 → sx_G X K nL pc2 lv (.int r :: st) (sx_H K σ2 τ2)) : sx_G X K nL pc lv (.int x2 :: .int x1 :: .ref (K.2.2.1 16 n 0) :: st) (sx_H K σ τ) :=
  sx_callVi (Q := fun r σ _ => Q r σ) (As := [.int x1, .int x2]) hX (c_Ne_comesTo hK n x1 x2 σ τ Q hn h) (hK 16 n 0 hn (by decide)) rfl rfl lk_238 lk_239 hy_Ne_comesTo lk_236 lk_47 lk_320 ⟨rfl, rfl⟩ hR hst rfl hd hpc kk
def y_Ne_depth : MethodName := ⟨"SensorTree$Net", "depth", "(I)I"⟩
theorem hy_Ne_depth : y_Ne_depth.cls ≠ "java/lang/invoke/MethodHandle" ∧ y_Ne_depth.cls ≠ "java/lang/invoke/VarHandle" ∧ (parseMethodDescriptor y_Ne_depth.desc).map (fun d => d.parameters.length) = some 1 := by decide +kernel
theorem d_Ne_depth_0 : decode prog_5_method_9_code 0 = .ok (.iload_n 1, 1) := by decide +kernel
theorem d_Ne_depth_1 : decode prog_5_method_9_code 1 = .ok (.istore_n 2, 1) := by decide +kernel
theorem d_Ne_depth_2 : decode prog_5_method_9_code 2 = .ok (.iconst 0, 1) := by decide +kernel
theorem d_Ne_depth_3 : decode prog_5_method_9_code 3 = .ok (.istore_n 3, 1) := by decide +kernel
theorem d_Ne_depth_4 : decode prog_5_method_9_code 4 = .ok (.iload_n 3, 1) := by decide +kernel
theorem d_Ne_depth_5 : decode prog_5_method_9_code 5 = .ok (.bipush 7, 2) := by decide +kernel
theorem d_Ne_depth_7 : decode prog_5_method_9_code 7 = .ok (.if_icmp .ge 36, 3) := by decide +kernel
theorem d_Ne_depth_10 : decode prog_5_method_9_code 10 = .ok (.aload_n 0, 1) := by decide +kernel
theorem d_Ne_depth_11 : decode prog_5_method_9_code 11 = .ok (.getfield 53, 3) := by decide +kernel
theorem d_Ne_depth_14 : decode prog_5_method_9_code 14 = .ok (.iload_n 2, 1) := by decide +kernel
theorem d_Ne_depth_15 : decode prog_5_method_9_code 15 = .ok (.invokevirtual 105, 3) := by decide +kernel
theorem d_Ne_depth_18 : decode prog_5_method_9_code 18 = .ok (.ifCond .eq 25, 3) := by decide +kernel
theorem d_Ne_depth_21 : decode prog_5_method_9_code 21 = .ok (.iload_n 2, 1) := by decide +kernel
theorem d_Ne_depth_22 : decode prog_5_method_9_code 22 = .ok (.ifCond .ne 5, 3) := by decide +kernel
theorem d_Ne_depth_25 : decode prog_5_method_9_code 25 = .ok (.iload_n 3, 1) := by decide +kernel
theorem d_Ne_depth_26 : decode prog_5_method_9_code 26 = .ok (.ireturn, 1) := by decide +kernel
theorem d_Ne_depth_27 : decode prog_5_method_9_code 27 = .ok (.aload_n 0, 1) := by decide +kernel
theorem d_Ne_depth_28 : decode prog_5_method_9_code 28 = .ok (.getfield 35, 3) := by decide +kernel
theorem d_Ne_depth_31 : decode prog_5_method_9_code 31 = .ok (.iload_n 2, 1) := by decide +kernel
theorem d_Ne_depth_32 : decode prog_5_method_9_code 32 = .ok (.aaload, 1) := by decide +kernel
theorem d_Ne_depth_33 : decode prog_5_method_9_code 33 = .ok (.getfield 102, 3) := by decide +kernel
theorem d_Ne_depth_36 : decode prog_5_method_9_code 36 = .ok (.istore_n 2, 1) := by decide +kernel
theorem d_Ne_depth_37 : decode prog_5_method_9_code 37 = .ok (.iinc 3 1, 3) := by decide +kernel
theorem d_Ne_depth_40 : decode prog_5_method_9_code 40 = .ok (.goto (-36), 3) := by decide +kernel
theorem d_Ne_depth_43 : decode prog_5_method_9_code 43 = .ok (.iconst 0, 1) := by decide +kernel
theorem d_Ne_depth_44 : decode prog_5_method_9_code 44 = .ok (.ireturn, 1) := by decide +kernel
def wp_Ne_depth_b43 (n : Nat)  (Q : Int32 → sx_M → Prop)  (σ : sx_M) : Prop := Q 0 σ
def wp_Ne_depth_b4 (n : Nat)  (Q : Int32 → sx_M → Prop) : Nat → Int32 → Int32 → sx_M → Prop
  | 0, _, _, _ => False
  | f + 1, v2, v3, σ => if 7 ≤ v3 then (wp_Ne_depth_b43 n Q σ) else (wp_Pl_isPost 0 v2 σ (fun r2 σ2 => if r2 = 0 then (wp_Ne_depth_b43 n Q σ2) else (if v2 = 0 then (Q v3 σ2) else (vp_in v2 7 ∧ (wp_Ne_depth_b4 n Q f (σ2 27 n v2.toNatClampNeg 3) (v3 + 1) σ2)))))
def wp_Ne_depth (n : Nat) (x1 : Int32) (σ : sx_M) (Q : Int32 → sx_M → Prop) : Prop := ∃ f4, wp_Ne_depth_b4 n Q f4 x1 0 σ
abbrev rm_Ne_depth : Room := { frames := 1, cells := 0, slots := 0, locals := 21 }
set_option maxRecDepth 100000 in
set_option maxHeartbeats 4000000 in
theorem g_Ne_depth_b43 {l : Launch} {K : sx_K} {X : sx_T} {n : Nat}  {Q : Int32 → sx_M → Prop} (hX : sx_C X K prog_5_method_9_code 4 "SensorTree$Net" (some .int) rm_Ne_depth l) (hK : kx_C K) (hE : sx_E X K (sx_Qi K (fun r σ _ => Q r σ))) (hn : n < 25)  (σ : sx_M) (τ : sx_L)  (h : wp_Ne_depth_b43 n Q  σ) : sx_G X K 4 43 [] [] (sx_H K σ τ) := by
  unfold wp_Ne_depth_b43 at h
  refine sx_iconst (v := 0) (pc2 := 44) hX d_Ne_depth_43 (by decide) rfl ?_
  exact sx_iret hX hE h d_Ne_depth_44
set_option maxRecDepth 100000 in
set_option maxHeartbeats 4000000 in
theorem g_Ne_depth_b4 {l : Launch} {K : sx_K} {X : sx_T} {n : Nat}  {Q : Int32 → sx_M → Prop} (hX : sx_C X K prog_5_method_9_code 4 "SensorTree$Net" (some .int) rm_Ne_depth l) (hK : kx_C K) (hE : sx_E X K (sx_Qi K (fun r σ _ => Q r σ))) (hn : n < 25) : ∀ (f : Nat) (v2 : Int32) (v3 : Int32) (σ : sx_M) (τ : sx_L) , wp_Ne_depth_b4 n Q f v2 v3 σ → sx_G X K 4 4 [(0, .ref (K.2.2.1 16 n 0)), (2, .int v2), (3, .int v3)] [] (sx_H K σ τ) := by
  intro f
  induction f with
  | zero => intro v2 v3 σ τ h; exact (show False from h).elim
  | succ f ih =>
    intro v2 v3 σ τ h
    rw [wp_Ne_depth_b4] at h
    refine sx_iload_n (pc2 := 5) hX 2 d_Ne_depth_4 rfl rfl rfl ?_
    refine sx_bipush (v := 7) (pc2 := 7) hX d_Ne_depth_5 (by decide) rfl ?_
    refine sx_icmp_ge (tgt := 43) (pc2 := 10) hX d_Ne_depth_7 (by decide) rfl (fun hc1 => ?_) (fun hc1 => ?_)
    · replace h := sx_t h hc1
      refine sx_sub [] [] rfl ?_
      exact g_Ne_depth_b43 hX hK hE hn  _ _ h
    · replace h := sx_f h hc1
      refine sx_aload_n (pc2 := 11) hX 0 d_Ne_depth_10 rfl rfl rfl ?_
      refine fg_Ne_53 (pc2 := 14) hX (hK 16 n 0 hn (by decide)) d_Ne_depth_11 rfl ?_
      refine sx_iload_n (pc2 := 15) hX 1 d_Ne_depth_14 rfl rfl rfl ?_
      refine cl_Ne_105 (pc2 := 18) hX hK h (by decide) ⟨Nat.le_of_ble_eq_true rfl, Nat.le_of_ble_eq_true rfl⟩ (Nat.le_of_ble_eq_true rfl) d_Ne_depth_15 rfl (fun r2 σ2 τ2 h => ?_)
      refine sx_if_eq (tgt := 43) (pc2 := 21) hX d_Ne_depth_18 (by decide) rfl (fun hc3 => ?_) (fun hc3 => ?_)
      · replace h := sx_t h hc3
        refine sx_sub [] [] rfl ?_
        exact g_Ne_depth_b43 hX hK hE hn  _ _ h
      · replace h := sx_f h hc3
        refine sx_iload_n (pc2 := 22) hX 1 d_Ne_depth_21 rfl rfl rfl ?_
        refine sx_if_ne (tgt := 27) (pc2 := 25) hX d_Ne_depth_22 (by decide) rfl (fun hc4 => ?_) (fun hc4 => ?_)
        · replace h := sx_f h hc4
          refine sx_aload_n (pc2 := 28) hX 0 d_Ne_depth_27 rfl rfl rfl ?_
          refine fg_Ne_35 (pc2 := 31) hX (hK 16 n 0 hn (by decide)) d_Ne_depth_28 rfl ?_
          refine sx_iload_n (pc2 := 32) hX 1 d_Ne_depth_31 rfl rfl rfl ?_
          obtain ⟨hc5, h⟩ := h
          refine sx_aald (a := K.2.2.1 27 n v2.toNatClampNeg) (pc2 := 33) hX (hK 17 n 0 hn (by decide)) 4 rfl rfl rfl hc5 d_Ne_depth_32 rfl ?_
          refine fg_Ne_102 (pc2 := 36) hX (hK 27 n v2.toNatClampNeg hn (sx_lt hc5)) d_Ne_depth_33 rfl ?_
          refine sx_istore_n (pc2 := 37) hX _ [(0, .ref (K.2.2.1 16 n 0)), (2, .int (σ2 27 n v2.toNatClampNeg 3)), (3, .int v3)] [1, 0, 2] d_Ne_depth_36 rfl (by decide) rfl rfl rfl ?_
          refine sx_iinc (pc2 := 40) hX 2 _ [(0, .ref (K.2.2.1 16 n 0)), (2, .int (σ2 27 n v2.toNatClampNeg 3)), (3, .int (v3 + 1))] [1, 2, 0] d_Ne_depth_37 rfl (v3 + 1) rfl (by decide) rfl rfl rfl ?_
          refine sx_goto (tgt := 4) hX d_Ne_depth_40 (by decide) ?_
          exact ih (σ2 27 n v2.toNatClampNeg 3) (v3 + 1) _ _ h
        · replace h := sx_t h hc4
          refine sx_iload_n (pc2 := 26) hX 2 d_Ne_depth_25 rfl rfl rfl ?_
          exact sx_iret hX hE h d_Ne_depth_26
set_option maxRecDepth 100000 in
set_option maxHeartbeats 4000000 in
theorem c_Ne_depth {l : Launch} {K : sx_K} (hK : kx_C K) (n : Nat) (x1 : Int32) (σ : sx_M) (τ : sx_L) (Q : Int32 → sx_M → Prop) (hn : n < 25) (h : wp_Ne_depth n x1 σ Q) : Met l y_Ne_depth (sx_wd y_Ne_depth prog_5_method_9_code 4 (some .int)) rm_Ne_depth (sx_Pc K [.ref (K.2.2.1 16 n 0), .int x1] σ τ) (sx_Qi K (fun r σ _ => Q r σ)) 0 0 (sx_A K) := by
  refine sx_met (by decide) (Nat.le_of_ble_eq_true rfl) (fun X hX hE => ?_)
  replace hX : sx_C X K prog_5_method_9_code 4 "SensorTree$Net" (some .int) rm_Ne_depth l := hX
  show sx_G X K 4 0 [(0, .ref (K.2.2.1 16 n 0)), (1, .int x1)] [] (sx_H K σ τ)
  unfold wp_Ne_depth at h
  refine sx_iload_n (pc2 := 1) hX 1 d_Ne_depth_0 rfl rfl rfl ?_
  refine sx_istore_n (pc2 := 2) hX _ [(0, .ref (K.2.2.1 16 n 0)), (1, .int x1), (2, .int x1)] [1, 2, 0] d_Ne_depth_1 rfl (by decide) rfl rfl rfl ?_
  refine sx_iconst (v := 0) (pc2 := 3) hX d_Ne_depth_2 (by decide) rfl ?_
  refine sx_istore_n (pc2 := 4) hX _ [(0, .ref (K.2.2.1 16 n 0)), (1, .int x1), (2, .int x1), (3, .int 0)] [1, 2, 3, 0] d_Ne_depth_3 rfl (by decide) rfl rfl rfl ?_
  refine sx_sub [(0, .ref (K.2.2.1 16 n 0)), (2, .int x1), (3, .int 0)] [0, 2, 3] rfl ?_
  obtain ⟨f4, h⟩ := h
  exact g_Ne_depth_b4 hX hK hE hn  f4 x1 0 _ _ h
theorem cl_St_262 {X : sx_T} {K : sx_K} {cc : ByteArray} {nL : Nat} {ret : Option FieldType} {rm : Room} {l : Launch} {pc pc2 : Nat} {lv : List (Nat × Value)} {st : List Value} {σ : sx_M} {τ : sx_L} {n : Nat} {x1 : Int32} {Q : Int32 → sx_M → Prop} (hX : sx_C X K cc nL "SensorTree" ret rm l) (hK : kx_C K) (h : wp_Ne_depth n x1 σ Q) (hn : n < 25) (hR : rm_Ne_depth.frames + 1 ≤ rm.frames ∧ 8 + (4 + 11) + rm_Ne_depth.locals ≤ rm.locals) (hst : (st.map fun v => v.category).sum ≤ 8) (hd : decode cc pc = .ok (.invokevirtual 262, 3)) (hpc : pc + 3 = pc2) (kk : ∀ (r : Int32) (σ2 : sx_M) (τ2 : sx_L), Q r σ2 → sx_G X K nL pc2 lv (.int r :: st) (sx_H K σ2 τ2)) : sx_G X K nL pc lv (.int x1 :: .ref (K.2.2.1 16 n 0) :: st) (sx_H K σ τ) :=
  sx_callVi (Q := fun r σ _ => Q r σ) (As := [.int x1]) hX (c_Ne_depth hK n x1 σ τ Q hn h) (hK 16 n 0 hn (by decide)) rfl rfl lk_335 lk_336 hy_Ne_depth lk_333 lk_47 lk_334 ⟨rfl, rfl⟩ hR hst rfl hd hpc kk
def y_Ne_messagesPut : MethodName := ⟨"SensorTree$Net", "messagesPut", "()I"⟩
theorem hy_Ne_messagesPut : y_Ne_messagesPut.cls ≠ "java/lang/invoke/MethodHandle" ∧ y_Ne_messagesPut.cls ≠ "java/lang/invoke/VarHandle" ∧ (parseMethodDescriptor y_Ne_messagesPut.desc).map (fun d => d.parameters.length) = some 0 := by decide +kernel
theorem d_Ne_messagesPut_0 : decode prog_5_method_10_code 0 = .ok (.aload_n 0, 1) := by decide +kernel
theorem d_Ne_messagesPut_1 : decode prog_5_method_10_code 1 = .ok (.getfield 15, 3) := by decide +kernel
theorem d_Ne_messagesPut_4 : decode prog_5_method_10_code 4 = .ok (.aload_n 0, 1) := by decide +kernel
theorem d_Ne_messagesPut_5 : decode prog_5_method_10_code 5 = .ok (.getfield 18, 3) := by decide +kernel
theorem d_Ne_messagesPut_8 : decode prog_5_method_10_code 8 = .ok (.iadd, 1) := by decide +kernel
theorem d_Ne_messagesPut_9 : decode prog_5_method_10_code 9 = .ok (.aload_n 0, 1) := by decide +kernel
theorem d_Ne_messagesPut_10 : decode prog_5_method_10_code 10 = .ok (.getfield 21, 3) := by decide +kernel
theorem d_Ne_messagesPut_13 : decode prog_5_method_10_code 13 = .ok (.iadd, 1) := by decide +kernel
theorem d_Ne_messagesPut_14 : decode prog_5_method_10_code 14 = .ok (.ireturn, 1) := by decide +kernel
def wp_Ne_messagesPut (n : Nat) (σ : sx_M) (Q : Int32 → sx_M → Prop) : Prop := Q (((σ 16 n 0 2) + (σ 16 n 0 3)) + (σ 16 n 0 4)) σ
abbrev rm_Ne_messagesPut : Room := { frames := 0, cells := 0, slots := 0, locals := 0 }
set_option maxRecDepth 100000 in
set_option maxHeartbeats 4000000 in
theorem c_Ne_messagesPut {l : Launch} {K : sx_K} (hK : kx_C K) (n : Nat) (σ : sx_M) (τ : sx_L) (Q : Int32 → sx_M → Prop) (hn : n < 25) (h : wp_Ne_messagesPut n σ Q) : Met l y_Ne_messagesPut (sx_wd y_Ne_messagesPut prog_5_method_10_code 1 (some .int)) rm_Ne_messagesPut (sx_Pc K [.ref (K.2.2.1 16 n 0)] σ τ) (sx_Qi K (fun r σ _ => Q r σ)) 0 0 (sx_A K) := by
  refine sx_met (by decide) (Nat.le_of_ble_eq_true rfl) (fun X hX hE => ?_)
  replace hX : sx_C X K prog_5_method_10_code 1 "SensorTree$Net" (some .int) rm_Ne_messagesPut l := hX
  show sx_G X K 1 0 [(0, .ref (K.2.2.1 16 n 0))] [] (sx_H K σ τ)
  unfold wp_Ne_messagesPut at h
  refine sx_aload_n (pc2 := 1) hX 0 d_Ne_messagesPut_0 rfl rfl rfl ?_
  refine fg_Ne_15 (pc2 := 4) hX (hK 16 n 0 hn (by decide)) d_Ne_messagesPut_1 rfl ?_
  refine sx_aload_n (pc2 := 5) hX 0 d_Ne_messagesPut_4 rfl rfl rfl ?_
  refine fg_Ne_18 (pc2 := 8) hX (hK 16 n 0 hn (by decide)) d_Ne_messagesPut_5 rfl ?_
  refine sx_iadd (pc2 := 9) hX d_Ne_messagesPut_8 rfl ?_
  refine sx_aload_n (pc2 := 10) hX 0 d_Ne_messagesPut_9 rfl rfl rfl ?_
  refine fg_Ne_21 (pc2 := 13) hX (hK 16 n 0 hn (by decide)) d_Ne_messagesPut_10 rfl ?_
  refine sx_iadd (pc2 := 14) hX d_Ne_messagesPut_13 rfl ?_
  exact sx_iret hX hE h d_Ne_messagesPut_14
theorem cl_St_247 {X : sx_T} {K : sx_K} {cc : ByteArray} {nL : Nat} {ret : Option FieldType} {rm : Room} {l : Launch} {pc pc2 : Nat} {lv : List (Nat × Value)} {st : List Value} {σ : sx_M} {τ : sx_L} {n : Nat} {Q : Int32 → sx_M → Prop} (hX : sx_C X K cc nL "SensorTree" ret rm l) (hK : kx_C K) (h : wp_Ne_messagesPut n σ Q) (hn : n < 25) (hR : rm_Ne_messagesPut.frames + 1 ≤ rm.frames ∧ 8 + (1 + 11) + rm_Ne_messagesPut.locals ≤ rm.locals) (hst : (st.map fun v => v.category).sum ≤ 8) (hd : decode cc pc = .ok (.invokevirtual 247, 3)) (hpc : pc + 3 = pc2) (kk : ∀ (r : Int32) (σ2 : sx_M) (τ2 : sx_L), Q r σ2 → sx_G X K nL pc2 lv (.int r :: st) (sx_H K σ2 τ2)) : sx_G X K nL pc lv (.ref (K.2.2.1 16 n 0) :: st) (sx_H K σ τ) :=
  sx_callVi (Q := fun r σ _ => Q r σ) (As := []) hX (c_Ne_messagesPut hK n σ τ Q hn h) (hK 16 n 0 hn (by decide)) rfl rfl lk_326 lk_327 hy_Ne_messagesPut lk_324 lk_47 lk_325 ⟨rfl, rfl⟩ hR hst rfl hd hpc kk
def y_Ne_routes : MethodName := ⟨"SensorTree$Net", "routes", "()I"⟩
theorem hy_Ne_routes : y_Ne_routes.cls ≠ "java/lang/invoke/MethodHandle" ∧ y_Ne_routes.cls ≠ "java/lang/invoke/VarHandle" ∧ (parseMethodDescriptor y_Ne_routes.desc).map (fun d => d.parameters.length) = some 0 := by decide +kernel
theorem d_Ne_routes_0 : decode prog_5_method_11_code 0 = .ok (.iconst 0, 1) := by decide +kernel
theorem d_Ne_routes_1 : decode prog_5_method_11_code 1 = .ok (.istore_n 1, 1) := by decide +kernel
theorem d_Ne_routes_2 : decode prog_5_method_11_code 2 = .ok (.iconst 0, 1) := by decide +kernel
theorem d_Ne_routes_3 : decode prog_5_method_11_code 3 = .ok (.istore_n 2, 1) := by decide +kernel
theorem d_Ne_routes_4 : decode prog_5_method_11_code 4 = .ok (.iload_n 2, 1) := by decide +kernel
theorem d_Ne_routes_5 : decode prog_5_method_11_code 5 = .ok (.aload_n 0, 1) := by decide +kernel
theorem d_Ne_routes_6 : decode prog_5_method_11_code 6 = .ok (.getfield 53, 3) := by decide +kernel
theorem d_Ne_routes_9 : decode prog_5_method_11_code 9 = .ok (.getfield 58, 3) := by decide +kernel
theorem d_Ne_routes_12 : decode prog_5_method_11_code 12 = .ok (.if_icmp .ge 52, 3) := by decide +kernel
theorem d_Ne_routes_15 : decode prog_5_method_11_code 15 = .ok (.iconst 0, 1) := by decide +kernel
theorem d_Ne_routes_16 : decode prog_5_method_11_code 16 = .ok (.istore_n 3, 1) := by decide +kernel
theorem d_Ne_routes_17 : decode prog_5_method_11_code 17 = .ok (.iload_n 3, 1) := by decide +kernel
theorem d_Ne_routes_18 : decode prog_5_method_11_code 18 = .ok (.aload_n 0, 1) := by decide +kernel
theorem d_Ne_routes_19 : decode prog_5_method_11_code 19 = .ok (.getfield 53, 3) := by decide +kernel
theorem d_Ne_routes_22 : decode prog_5_method_11_code 22 = .ok (.getfield 58, 3) := by decide +kernel
theorem d_Ne_routes_25 : decode prog_5_method_11_code 25 = .ok (.if_icmp .ge 33, 3) := by decide +kernel
theorem d_Ne_routes_28 : decode prog_5_method_11_code 28 = .ok (.iload_n 1, 1) := by decide +kernel
theorem d_Ne_routes_29 : decode prog_5_method_11_code 29 = .ok (.aload_n 0, 1) := by decide +kernel
theorem d_Ne_routes_30 : decode prog_5_method_11_code 30 = .ok (.getfield 35, 3) := by decide +kernel
theorem d_Ne_routes_33 : decode prog_5_method_11_code 33 = .ok (.iload_n 2, 1) := by decide +kernel
theorem d_Ne_routes_34 : decode prog_5_method_11_code 34 = .ok (.aaload, 1) := by decide +kernel
theorem d_Ne_routes_35 : decode prog_5_method_11_code 35 = .ok (.getfield 109, 3) := by decide +kernel
theorem d_Ne_routes_38 : decode prog_5_method_11_code 38 = .ok (.iload_n 3, 1) := by decide +kernel
theorem d_Ne_routes_39 : decode prog_5_method_11_code 39 = .ok (.iaload, 1) := by decide +kernel
theorem d_Ne_routes_40 : decode prog_5_method_11_code 40 = .ok (.bipush (-2), 2) := by decide +kernel
theorem d_Ne_routes_42 : decode prog_5_method_11_code 42 = .ok (.if_icmp .eq 7, 3) := by decide +kernel
theorem d_Ne_routes_45 : decode prog_5_method_11_code 45 = .ok (.iconst 1, 1) := by decide +kernel
theorem d_Ne_routes_46 : decode prog_5_method_11_code 46 = .ok (.goto 4, 3) := by decide +kernel
theorem d_Ne_routes_49 : decode prog_5_method_11_code 49 = .ok (.iconst 0, 1) := by decide +kernel
theorem d_Ne_routes_50 : decode prog_5_method_11_code 50 = .ok (.iadd, 1) := by decide +kernel
theorem d_Ne_routes_51 : decode prog_5_method_11_code 51 = .ok (.istore_n 1, 1) := by decide +kernel
theorem d_Ne_routes_52 : decode prog_5_method_11_code 52 = .ok (.iinc 3 1, 3) := by decide +kernel
theorem d_Ne_routes_55 : decode prog_5_method_11_code 55 = .ok (.goto (-38), 3) := by decide +kernel
theorem d_Ne_routes_58 : decode prog_5_method_11_code 58 = .ok (.iinc 2 1, 3) := by decide +kernel
theorem d_Ne_routes_61 : decode prog_5_method_11_code 61 = .ok (.goto (-57), 3) := by decide +kernel
theorem d_Ne_routes_64 : decode prog_5_method_11_code 64 = .ok (.iload_n 1, 1) := by decide +kernel
theorem d_Ne_routes_65 : decode prog_5_method_11_code 65 = .ok (.ireturn, 1) := by decide +kernel
def wp_Ne_routes_b50 (n : Nat) (k4 : Int32 → Int32 → sx_M → Prop) (k17 : Int32 → Int32 → Int32 → sx_M → Prop) (Q : Int32 → sx_M → Prop) (v2 : Int32) (v3 : Int32) (w0 : Int32) (w1 : Int32) (σ : sx_M) : Prop := k17 (w0 + w1) v2 (v3 + 1) σ
def wp_Ne_routes_b17 (n : Nat) (k4 : Int32 → Int32 → sx_M → Prop) (Q : Int32 → sx_M → Prop) : Nat → Int32 → Int32 → Int32 → sx_M → Prop
  | 0, _, _, _, _ => False
  | f + 1, v1, v2, v3, σ => if σ 8 0 0 0 ≤ v3 then (k4 v1 (v2 + 1) σ) else (vp_in v2 7 ∧ (vp_in v3 7 ∧ (if σ 29 n v2.toNatClampNeg v3.toNatClampNeg = (-2) then (wp_Ne_routes_b50 n k4 (wp_Ne_routes_b17 n k4 Q f) Q v2 v3 v1 0 σ) else (wp_Ne_routes_b50 n k4 (wp_Ne_routes_b17 n k4 Q f) Q v2 v3 v1 1 σ))))
def wp_Ne_routes_b4 (n : Nat)  (Q : Int32 → sx_M → Prop) : Nat → Int32 → Int32 → sx_M → Prop
  | 0, _, _, _ => False
  | f + 1, v1, v2, σ => if σ 8 0 0 0 ≤ v2 then (Q v1 σ) else (∃ f17, wp_Ne_routes_b17 n (wp_Ne_routes_b4 n Q f) Q f17 v1 v2 0 σ)
def wp_Ne_routes (n : Nat) (σ : sx_M) (Q : Int32 → sx_M → Prop) : Prop := ∃ f4, wp_Ne_routes_b4 n Q f4 0 0 σ
abbrev rm_Ne_routes : Room := { frames := 0, cells := 0, slots := 0, locals := 0 }
set_option maxRecDepth 100000 in
set_option maxHeartbeats 4000000 in
theorem g_Ne_routes_b50 {l : Launch} {K : sx_K} {X : sx_T} {n : Nat} {k4 : Int32 → Int32 → sx_M → Prop} {k17 : Int32 → Int32 → Int32 → sx_M → Prop} {Q : Int32 → sx_M → Prop} (hX : sx_C X K prog_5_method_11_code 4 "SensorTree$Net" (some .int) rm_Ne_routes l) (hK : kx_C K) (hE : sx_E X K (sx_Qi K (fun r σ _ => Q r σ))) (hn : n < 25) (hk4 : ∀ (v1 : Int32) (v2 : Int32) (σ : sx_M) (τ : sx_L) , k4 v1 v2 σ → sx_G X K 4 4 [(0, .ref (K.2.2.1 16 n 0)), (1, .int v1), (2, .int v2)] [] (sx_H K σ τ)) (hk17 : ∀ (v1 : Int32) (v2 : Int32) (v3 : Int32) (σ : sx_M) (τ : sx_L) , k17 v1 v2 v3 σ → sx_G X K 4 17 [(0, .ref (K.2.2.1 16 n 0)), (1, .int v1), (2, .int v2), (3, .int v3)] [] (sx_H K σ τ)) (v2 : Int32) (v3 : Int32) (w0 : Int32) (w1 : Int32) (σ : sx_M) (τ : sx_L)  (h : wp_Ne_routes_b50 n k4 k17 Q  v2 v3 w0 w1 σ) : sx_G X K 4 50 [(0, .ref (K.2.2.1 16 n 0)), (2, .int v2), (3, .int v3)] [.int w1, .int w0] (sx_H K σ τ) := by
  unfold wp_Ne_routes_b50 at h
  refine sx_iadd (pc2 := 51) hX d_Ne_routes_50 rfl ?_
  refine sx_istore_n (pc2 := 52) hX _ [(0, .ref (K.2.2.1 16 n 0)), (1, .int (w0 + w1)), (2, .int v2), (3, .int v3)] [1, 0, 2, 3] d_Ne_routes_51 rfl (by decide) rfl rfl rfl ?_
  refine sx_iinc (pc2 := 55) hX 3 _ [(0, .ref (K.2.2.1 16 n 0)), (1, .int (w0 + w1)), (2, .int v2), (3, .int (v3 + 1))] [1, 2, 3, 0] d_Ne_routes_52 rfl (v3 + 1) rfl (by decide) rfl rfl rfl ?_
  refine sx_goto (tgt := 17) hX d_Ne_routes_55 (by decide) ?_
  exact hk17 (w0 + w1) v2 (v3 + 1) _ _ h
set_option maxRecDepth 100000 in
set_option maxHeartbeats 4000000 in
theorem g_Ne_routes_b17 {l : Launch} {K : sx_K} {X : sx_T} {n : Nat} {k4 : Int32 → Int32 → sx_M → Prop} {Q : Int32 → sx_M → Prop} (hX : sx_C X K prog_5_method_11_code 4 "SensorTree$Net" (some .int) rm_Ne_routes l) (hK : kx_C K) (hE : sx_E X K (sx_Qi K (fun r σ _ => Q r σ))) (hn : n < 25) (hk4 : ∀ (v1 : Int32) (v2 : Int32) (σ : sx_M) (τ : sx_L) , k4 v1 v2 σ → sx_G X K 4 4 [(0, .ref (K.2.2.1 16 n 0)), (1, .int v1), (2, .int v2)] [] (sx_H K σ τ)) : ∀ (f : Nat) (v1 : Int32) (v2 : Int32) (v3 : Int32) (σ : sx_M) (τ : sx_L) , wp_Ne_routes_b17 n k4 Q f v1 v2 v3 σ → sx_G X K 4 17 [(0, .ref (K.2.2.1 16 n 0)), (1, .int v1), (2, .int v2), (3, .int v3)] [] (sx_H K σ τ) := by
  intro f
  induction f with
  | zero => intro v1 v2 v3 σ τ h; exact (show False from h).elim
  | succ f ih =>
    intro v1 v2 v3 σ τ h
    rw [wp_Ne_routes_b17] at h
    refine sx_iload_n (pc2 := 18) hX 3 d_Ne_routes_17 rfl rfl rfl ?_
    refine sx_aload_n (pc2 := 19) hX 0 d_Ne_routes_18 rfl rfl rfl ?_
    refine fg_Ne_53 (pc2 := 22) hX (hK 16 n 0 hn (by decide)) d_Ne_routes_19 rfl ?_
    refine fg_Ne_58 (pc2 := 25) hX (hK 8 0 0 (by decide) (by decide)) d_Ne_routes_22 rfl ?_
    refine sx_icmp_ge (tgt := 58) (pc2 := 28) hX d_Ne_routes_25 (by decide) rfl (fun hc1 => ?_) (fun hc1 => ?_)
    · replace h := sx_t h hc1
      refine sx_iinc (pc2 := 61) hX 2 _ [(0, .ref (K.2.2.1 16 n 0)), (1, .int v1), (2, .int (v2 + 1)), (3, .int v3)] [1, 2, 0, 3] d_Ne_routes_58 rfl (v2 + 1) rfl (by decide) rfl rfl rfl ?_
      refine sx_goto (tgt := 4) hX d_Ne_routes_61 (by decide) ?_
      refine sx_sub [(0, .ref (K.2.2.1 16 n 0)), (1, .int v1), (2, .int (v2 + 1))] [0, 1, 2] rfl ?_
      exact hk4 v1 (v2 + 1) _ _ h
    · replace h := sx_f h hc1
      refine sx_iload_n (pc2 := 29) hX 1 d_Ne_routes_28 rfl rfl rfl ?_
      refine sx_aload_n (pc2 := 30) hX 0 d_Ne_routes_29 rfl rfl rfl ?_
      refine fg_Ne_35 (pc2 := 33) hX (hK 16 n 0 hn (by decide)) d_Ne_routes_30 rfl ?_
      refine sx_iload_n (pc2 := 34) hX 2 d_Ne_routes_33 rfl rfl rfl ?_
      obtain ⟨hc2, h⟩ := h
      refine sx_aald (a := K.2.2.1 27 n v2.toNatClampNeg) (pc2 := 35) hX (hK 17 n 0 hn (by decide)) 4 rfl rfl rfl hc2 d_Ne_routes_34 rfl ?_
      refine fg_Ne_109 (pc2 := 38) hX (hK 27 n v2.toNatClampNeg hn (sx_lt hc2)) d_Ne_routes_35 rfl ?_
      refine sx_iload_n (pc2 := 39) hX 3 d_Ne_routes_38 rfl rfl rfl ?_
      obtain ⟨hc3, h⟩ := h
      refine sx_iald (pc2 := 40) hX (hK 29 n v2.toNatClampNeg hn (sx_lt hc2)) rfl hc3 d_Ne_routes_39 rfl ?_
      refine sx_bipush (v := (-2)) (pc2 := 42) hX d_Ne_routes_40 (by decide) rfl ?_
      refine sx_icmp_eq (tgt := 49) (pc2 := 45) hX d_Ne_routes_42 (by decide) rfl (fun hc4 => ?_) (fun hc4 => ?_)
      · replace h := sx_t h hc4
        refine sx_iconst (v := 0) (pc2 := 50) hX d_Ne_routes_49 (by decide) rfl ?_
        refine sx_sub [(0, .ref (K.2.2.1 16 n 0)), (2, .int v2), (3, .int v3)] [0, 2, 3] rfl ?_
        exact g_Ne_routes_b50 hX hK hE hn hk4 ih v2 v3 v1 0 _ _ h
      · replace h := sx_f h hc4
        refine sx_iconst (v := 1) (pc2 := 46) hX d_Ne_routes_45 (by decide) rfl ?_
        refine sx_goto (tgt := 50) hX d_Ne_routes_46 (by decide) ?_
        refine sx_sub [(0, .ref (K.2.2.1 16 n 0)), (2, .int v2), (3, .int v3)] [0, 2, 3] rfl ?_
        exact g_Ne_routes_b50 hX hK hE hn hk4 ih v2 v3 v1 1 _ _ h
set_option maxRecDepth 100000 in
set_option maxHeartbeats 4000000 in
theorem g_Ne_routes_b4 {l : Launch} {K : sx_K} {X : sx_T} {n : Nat}  {Q : Int32 → sx_M → Prop} (hX : sx_C X K prog_5_method_11_code 4 "SensorTree$Net" (some .int) rm_Ne_routes l) (hK : kx_C K) (hE : sx_E X K (sx_Qi K (fun r σ _ => Q r σ))) (hn : n < 25) : ∀ (f : Nat) (v1 : Int32) (v2 : Int32) (σ : sx_M) (τ : sx_L) , wp_Ne_routes_b4 n Q f v1 v2 σ → sx_G X K 4 4 [(0, .ref (K.2.2.1 16 n 0)), (1, .int v1), (2, .int v2)] [] (sx_H K σ τ) := by
  intro f
  induction f with
  | zero => intro v1 v2 σ τ h; exact (show False from h).elim
  | succ f ih =>
    intro v1 v2 σ τ h
    rw [wp_Ne_routes_b4] at h
    refine sx_iload_n (pc2 := 5) hX 2 d_Ne_routes_4 rfl rfl rfl ?_
    refine sx_aload_n (pc2 := 6) hX 0 d_Ne_routes_5 rfl rfl rfl ?_
    refine fg_Ne_53 (pc2 := 9) hX (hK 16 n 0 hn (by decide)) d_Ne_routes_6 rfl ?_
    refine fg_Ne_58 (pc2 := 12) hX (hK 8 0 0 (by decide) (by decide)) d_Ne_routes_9 rfl ?_
    refine sx_icmp_ge (tgt := 64) (pc2 := 15) hX d_Ne_routes_12 (by decide) rfl (fun hc5 => ?_) (fun hc5 => ?_)
    · replace h := sx_t h hc5
      refine sx_iload_n (pc2 := 65) hX 1 d_Ne_routes_64 rfl rfl rfl ?_
      exact sx_iret hX hE h d_Ne_routes_65
    · replace h := sx_f h hc5
      refine sx_iconst (v := 0) (pc2 := 16) hX d_Ne_routes_15 (by decide) rfl ?_
      refine sx_istore_n (pc2 := 17) hX _ [(0, .ref (K.2.2.1 16 n 0)), (1, .int v1), (2, .int v2), (3, .int 0)] [1, 2, 3, 0] d_Ne_routes_16 rfl (by decide) rfl rfl rfl ?_
      obtain ⟨f17, h⟩ := h
      exact g_Ne_routes_b17 hX hK hE hn ih f17 v1 v2 0 _ _ h
set_option maxRecDepth 100000 in
set_option maxHeartbeats 4000000 in
theorem c_Ne_routes {l : Launch} {K : sx_K} (hK : kx_C K) (n : Nat) (σ : sx_M) (τ : sx_L) (Q : Int32 → sx_M → Prop) (hn : n < 25) (h : wp_Ne_routes n σ Q) : Met l y_Ne_routes (sx_wd y_Ne_routes prog_5_method_11_code 4 (some .int)) rm_Ne_routes (sx_Pc K [.ref (K.2.2.1 16 n 0)] σ τ) (sx_Qi K (fun r σ _ => Q r σ)) 0 0 (sx_A K) := by
  refine sx_met (by decide) (Nat.le_of_ble_eq_true rfl) (fun X hX hE => ?_)
  replace hX : sx_C X K prog_5_method_11_code 4 "SensorTree$Net" (some .int) rm_Ne_routes l := hX
  show sx_G X K 4 0 [(0, .ref (K.2.2.1 16 n 0))] [] (sx_H K σ τ)
  unfold wp_Ne_routes at h
  refine sx_iconst (v := 0) (pc2 := 1) hX d_Ne_routes_0 (by decide) rfl ?_
  refine sx_istore_n (pc2 := 2) hX _ [(0, .ref (K.2.2.1 16 n 0)), (1, .int 0)] [1, 0] d_Ne_routes_1 rfl (by decide) rfl rfl rfl ?_
  refine sx_iconst (v := 0) (pc2 := 3) hX d_Ne_routes_2 (by decide) rfl ?_
  refine sx_istore_n (pc2 := 4) hX _ [(0, .ref (K.2.2.1 16 n 0)), (1, .int 0), (2, .int 0)] [1, 2, 0] d_Ne_routes_3 rfl (by decide) rfl rfl rfl ?_
  obtain ⟨f4, h⟩ := h
  exact g_Ne_routes_b4 hX hK hE hn  f4 0 0 _ _ h
theorem cl_St_291 {X : sx_T} {K : sx_K} {cc : ByteArray} {nL : Nat} {ret : Option FieldType} {rm : Room} {l : Launch} {pc pc2 : Nat} {lv : List (Nat × Value)} {st : List Value} {σ : sx_M} {τ : sx_L} {n : Nat} {Q : Int32 → sx_M → Prop} (hX : sx_C X K cc nL "SensorTree" ret rm l) (hK : kx_C K) (h : wp_Ne_routes n σ Q) (hn : n < 25) (hR : rm_Ne_routes.frames + 1 ≤ rm.frames ∧ 8 + (4 + 11) + rm_Ne_routes.locals ≤ rm.locals) (hst : (st.map fun v => v.category).sum ≤ 8) (hd : decode cc pc = .ok (.invokevirtual 291, 3)) (hpc : pc + 3 = pc2) (kk : ∀ (r : Int32) (σ2 : sx_M) (τ2 : sx_L), Q r σ2 → sx_G X K nL pc2 lv (.int r :: st) (sx_H K σ2 τ2)) : sx_G X K nL pc lv (.ref (K.2.2.1 16 n 0) :: st) (sx_H K σ τ) :=
  sx_callVi (Q := fun r σ _ => Q r σ) (As := []) hX (c_Ne_routes hK n σ τ Q hn h) (hK 16 n 0 hn (by decide)) rfl rfl lk_343 lk_344 hy_Ne_routes lk_341 lk_47 lk_342 ⟨rfl, rfl⟩ hR hst rfl hd hpc kk
def y_Ne_greatestRank : MethodName := ⟨"SensorTree$Net", "greatestRank", "()I"⟩
theorem hy_Ne_greatestRank : y_Ne_greatestRank.cls ≠ "java/lang/invoke/MethodHandle" ∧ y_Ne_greatestRank.cls ≠ "java/lang/invoke/VarHandle" ∧ (parseMethodDescriptor y_Ne_greatestRank.desc).map (fun d => d.parameters.length) = some 0 := by decide +kernel
theorem d_Ne_greatestRank_0 : decode prog_5_method_12_code 0 = .ok (.iconst 0, 1) := by decide +kernel
theorem d_Ne_greatestRank_1 : decode prog_5_method_12_code 1 = .ok (.istore_n 1, 1) := by decide +kernel
theorem d_Ne_greatestRank_2 : decode prog_5_method_12_code 2 = .ok (.iconst 0, 1) := by decide +kernel
theorem d_Ne_greatestRank_3 : decode prog_5_method_12_code 3 = .ok (.istore_n 2, 1) := by decide +kernel
theorem d_Ne_greatestRank_4 : decode prog_5_method_12_code 4 = .ok (.iload_n 2, 1) := by decide +kernel
theorem d_Ne_greatestRank_5 : decode prog_5_method_12_code 5 = .ok (.aload_n 0, 1) := by decide +kernel
theorem d_Ne_greatestRank_6 : decode prog_5_method_12_code 6 = .ok (.getfield 53, 3) := by decide +kernel
theorem d_Ne_greatestRank_9 : decode prog_5_method_12_code 9 = .ok (.getfield 58, 3) := by decide +kernel
theorem d_Ne_greatestRank_12 : decode prog_5_method_12_code 12 = .ok (.if_icmp .ge 36, 3) := by decide +kernel
theorem d_Ne_greatestRank_15 : decode prog_5_method_12_code 15 = .ok (.aload_n 0, 1) := by decide +kernel
theorem d_Ne_greatestRank_16 : decode prog_5_method_12_code 16 = .ok (.getfield 35, 3) := by decide +kernel
theorem d_Ne_greatestRank_19 : decode prog_5_method_12_code 19 = .ok (.iload_n 2, 1) := by decide +kernel
theorem d_Ne_greatestRank_20 : decode prog_5_method_12_code 20 = .ok (.aaload, 1) := by decide +kernel
theorem d_Ne_greatestRank_21 : decode prog_5_method_12_code 21 = .ok (.getfield 112, 3) := by decide +kernel
theorem d_Ne_greatestRank_24 : decode prog_5_method_12_code 24 = .ok (.istore_n 3, 1) := by decide +kernel
theorem d_Ne_greatestRank_25 : decode prog_5_method_12_code 25 = .ok (.iload_n 3, 1) := by decide +kernel
theorem d_Ne_greatestRank_26 : decode prog_5_method_12_code 26 = .ok (.sipush 9999, 3) := by decide +kernel
theorem d_Ne_greatestRank_29 : decode prog_5_method_12_code 29 = .ok (.if_icmp .ge 11, 3) := by decide +kernel
theorem d_Ne_greatestRank_32 : decode prog_5_method_12_code 32 = .ok (.iload_n 1, 1) := by decide +kernel
theorem d_Ne_greatestRank_33 : decode prog_5_method_12_code 33 = .ok (.iload_n 3, 1) := by decide +kernel
theorem d_Ne_greatestRank_34 : decode prog_5_method_12_code 34 = .ok (.invokestatic 115, 3) := by decide +kernel
theorem d_Ne_greatestRank_37 : decode prog_5_method_12_code 37 = .ok (.goto 4, 3) := by decide +kernel
theorem d_Ne_greatestRank_40 : decode prog_5_method_12_code 40 = .ok (.iload_n 1, 1) := by decide +kernel
theorem d_Ne_greatestRank_41 : decode prog_5_method_12_code 41 = .ok (.istore_n 1, 1) := by decide +kernel
theorem d_Ne_greatestRank_42 : decode prog_5_method_12_code 42 = .ok (.iinc 2 1, 3) := by decide +kernel
theorem d_Ne_greatestRank_45 : decode prog_5_method_12_code 45 = .ok (.goto (-41), 3) := by decide +kernel
theorem d_Ne_greatestRank_48 : decode prog_5_method_12_code 48 = .ok (.iload_n 1, 1) := by decide +kernel
theorem d_Ne_greatestRank_49 : decode prog_5_method_12_code 49 = .ok (.ireturn, 1) := by decide +kernel
def wp_Ne_greatestRank_b41 (n : Nat) (k4 : Int32 → Int32 → sx_M → Prop) (Q : Int32 → sx_M → Prop) (v2 : Int32) (w0 : Int32) (σ : sx_M) : Prop := k4 w0 (v2 + 1) σ
def wp_Ne_greatestRank_b4 (n : Nat)  (Q : Int32 → sx_M → Prop) : Nat → Int32 → Int32 → sx_M → Prop
  | 0, _, _, _ => False
  | f + 1, v1, v2, σ => if σ 8 0 0 0 ≤ v2 then (Q v1 σ) else (vp_in v2 7 ∧ (if 9999 ≤ σ 27 n v2.toNatClampNeg 2 then (wp_Ne_greatestRank_b41 n (wp_Ne_greatestRank_b4 n Q f) Q v2 v1 σ) else (wp_Ne_greatestRank_b41 n (wp_Ne_greatestRank_b4 n Q f) Q v2 (if v1 < σ 27 n v2.toNatClampNeg 2 then σ 27 n v2.toNatClampNeg 2 else v1) σ)))
def wp_Ne_greatestRank (n : Nat) (σ : sx_M) (Q : Int32 → sx_M → Prop) : Prop := ∃ f4, wp_Ne_greatestRank_b4 n Q f4 0 0 σ
abbrev rm_Ne_greatestRank : Room := { frames := 1, cells := 0, slots := 0, locals := 13 }
set_option maxRecDepth 100000 in
set_option maxHeartbeats 4000000 in
theorem g_Ne_greatestRank_b41 {l : Launch} {K : sx_K} {X : sx_T} {n : Nat} {k4 : Int32 → Int32 → sx_M → Prop} {Q : Int32 → sx_M → Prop} (hX : sx_C X K prog_5_method_12_code 4 "SensorTree$Net" (some .int) rm_Ne_greatestRank l) (hK : kx_C K) (hE : sx_E X K (sx_Qi K (fun r σ _ => Q r σ))) (hn : n < 25) (hk4 : ∀ (v1 : Int32) (v2 : Int32) (σ : sx_M) (τ : sx_L) , k4 v1 v2 σ → sx_G X K 4 4 [(0, .ref (K.2.2.1 16 n 0)), (1, .int v1), (2, .int v2)] [] (sx_H K σ τ)) (v2 : Int32) (w0 : Int32) (σ : sx_M) (τ : sx_L)  (h : wp_Ne_greatestRank_b41 n k4 Q  v2 w0 σ) : sx_G X K 4 41 [(0, .ref (K.2.2.1 16 n 0)), (2, .int v2)] [.int w0] (sx_H K σ τ) := by
  unfold wp_Ne_greatestRank_b41 at h
  refine sx_istore_n (pc2 := 42) hX _ [(0, .ref (K.2.2.1 16 n 0)), (1, .int w0), (2, .int v2)] [1, 0, 2] d_Ne_greatestRank_41 rfl (by decide) rfl rfl rfl ?_
  refine sx_iinc (pc2 := 45) hX 2 _ [(0, .ref (K.2.2.1 16 n 0)), (1, .int w0), (2, .int (v2 + 1))] [1, 2, 0] d_Ne_greatestRank_42 rfl (v2 + 1) rfl (by decide) rfl rfl rfl ?_
  refine sx_goto (tgt := 4) hX d_Ne_greatestRank_45 (by decide) ?_
  exact hk4 w0 (v2 + 1) _ _ h
set_option maxRecDepth 100000 in
set_option maxHeartbeats 4000000 in
theorem g_Ne_greatestRank_b4 {l : Launch} {K : sx_K} {X : sx_T} {n : Nat}  {Q : Int32 → sx_M → Prop} (hX : sx_C X K prog_5_method_12_code 4 "SensorTree$Net" (some .int) rm_Ne_greatestRank l) (hK : kx_C K) (hE : sx_E X K (sx_Qi K (fun r σ _ => Q r σ))) (hn : n < 25) : ∀ (f : Nat) (v1 : Int32) (v2 : Int32) (σ : sx_M) (τ : sx_L) , wp_Ne_greatestRank_b4 n Q f v1 v2 σ → sx_G X K 4 4 [(0, .ref (K.2.2.1 16 n 0)), (1, .int v1), (2, .int v2)] [] (sx_H K σ τ) := by
  intro f
  induction f with
  | zero => intro v1 v2 σ τ h; exact (show False from h).elim
  | succ f ih =>
    intro v1 v2 σ τ h
    rw [wp_Ne_greatestRank_b4] at h
    refine sx_iload_n (pc2 := 5) hX 2 d_Ne_greatestRank_4 rfl rfl rfl ?_
    refine sx_aload_n (pc2 := 6) hX 0 d_Ne_greatestRank_5 rfl rfl rfl ?_
    refine fg_Ne_53 (pc2 := 9) hX (hK 16 n 0 hn (by decide)) d_Ne_greatestRank_6 rfl ?_
    refine fg_Ne_58 (pc2 := 12) hX (hK 8 0 0 (by decide) (by decide)) d_Ne_greatestRank_9 rfl ?_
    refine sx_icmp_ge (tgt := 48) (pc2 := 15) hX d_Ne_greatestRank_12 (by decide) rfl (fun hc1 => ?_) (fun hc1 => ?_)
    · replace h := sx_t h hc1
      refine sx_iload_n (pc2 := 49) hX 1 d_Ne_greatestRank_48 rfl rfl rfl ?_
      exact sx_iret hX hE h d_Ne_greatestRank_49
    · replace h := sx_f h hc1
      refine sx_aload_n (pc2 := 16) hX 0 d_Ne_greatestRank_15 rfl rfl rfl ?_
      refine fg_Ne_35 (pc2 := 19) hX (hK 16 n 0 hn (by decide)) d_Ne_greatestRank_16 rfl ?_
      refine sx_iload_n (pc2 := 20) hX 2 d_Ne_greatestRank_19 rfl rfl rfl ?_
      obtain ⟨hc2, h⟩ := h
      refine sx_aald (a := K.2.2.1 27 n v2.toNatClampNeg) (pc2 := 21) hX (hK 17 n 0 hn (by decide)) 4 rfl rfl rfl hc2 d_Ne_greatestRank_20 rfl ?_
      refine fg_Ne_112 (pc2 := 24) hX (hK 27 n v2.toNatClampNeg hn (sx_lt hc2)) d_Ne_greatestRank_21 rfl ?_
      refine sx_istore_n (pc2 := 25) hX _ [(0, .ref (K.2.2.1 16 n 0)), (1, .int v1), (2, .int v2), (3, .int (σ 27 n v2.toNatClampNeg 2))] [1, 2, 3, 0] d_Ne_greatestRank_24 rfl (by decide) rfl rfl rfl ?_
      refine sx_iload_n (pc2 := 26) hX 3 d_Ne_greatestRank_25 rfl rfl rfl ?_
      refine sx_sipush (v := 9999) (pc2 := 29) hX d_Ne_greatestRank_26 (by decide) rfl ?_
      refine sx_icmp_ge (tgt := 40) (pc2 := 32) hX d_Ne_greatestRank_29 (by decide) rfl (fun hc3 => ?_) (fun hc3 => ?_)
      · replace h := sx_t h hc3
        refine sx_iload_n (pc2 := 41) hX 1 d_Ne_greatestRank_40 rfl rfl rfl ?_
        refine sx_sub [(0, .ref (K.2.2.1 16 n 0)), (2, .int v2)] [0, 2] rfl ?_
        exact g_Ne_greatestRank_b41 hX hK hE hn ih v2 v1 _ _ h
      · replace h := sx_f h hc3
        refine sx_iload_n (pc2 := 33) hX 1 d_Ne_greatestRank_32 rfl rfl rfl ?_
        refine sx_iload_n (pc2 := 34) hX 3 d_Ne_greatestRank_33 rfl rfl rfl ?_
        refine sx_mmax (pc2 := 37) hX lk_7 kx_mmax.1 kx_mmax.2.1 kx_mmax.2.2 ⟨Nat.le_of_ble_eq_true rfl, Nat.le_of_ble_eq_true rfl⟩ d_Ne_greatestRank_34 rfl ?_
        refine sx_goto (tgt := 41) hX d_Ne_greatestRank_37 (by decide) ?_
        refine sx_sub [(0, .ref (K.2.2.1 16 n 0)), (2, .int v2)] [0, 2] rfl ?_
        exact g_Ne_greatestRank_b41 hX hK hE hn ih v2 (if v1 < σ 27 n v2.toNatClampNeg 2 then σ 27 n v2.toNatClampNeg 2 else v1) _ _ h
set_option maxRecDepth 100000 in
set_option maxHeartbeats 4000000 in
theorem c_Ne_greatestRank {l : Launch} {K : sx_K} (hK : kx_C K) (n : Nat) (σ : sx_M) (τ : sx_L) (Q : Int32 → sx_M → Prop) (hn : n < 25) (h : wp_Ne_greatestRank n σ Q) : Met l y_Ne_greatestRank (sx_wd y_Ne_greatestRank prog_5_method_12_code 4 (some .int)) rm_Ne_greatestRank (sx_Pc K [.ref (K.2.2.1 16 n 0)] σ τ) (sx_Qi K (fun r σ _ => Q r σ)) 0 0 (sx_A K) := by
  refine sx_met (by decide) (Nat.le_of_ble_eq_true rfl) (fun X hX hE => ?_)
  replace hX : sx_C X K prog_5_method_12_code 4 "SensorTree$Net" (some .int) rm_Ne_greatestRank l := hX
  show sx_G X K 4 0 [(0, .ref (K.2.2.1 16 n 0))] [] (sx_H K σ τ)
  unfold wp_Ne_greatestRank at h
  refine sx_iconst (v := 0) (pc2 := 1) hX d_Ne_greatestRank_0 (by decide) rfl ?_
  refine sx_istore_n (pc2 := 2) hX _ [(0, .ref (K.2.2.1 16 n 0)), (1, .int 0)] [1, 0] d_Ne_greatestRank_1 rfl (by decide) rfl rfl rfl ?_
  refine sx_iconst (v := 0) (pc2 := 3) hX d_Ne_greatestRank_2 (by decide) rfl ?_
  refine sx_istore_n (pc2 := 4) hX _ [(0, .ref (K.2.2.1 16 n 0)), (1, .int 0), (2, .int 0)] [1, 2, 0] d_Ne_greatestRank_3 rfl (by decide) rfl rfl rfl ?_
  obtain ⟨f4, h⟩ := h
  exact g_Ne_greatestRank_b4 hX hK hE hn  f4 0 0 _ _ h
theorem cl_St_309 {X : sx_T} {K : sx_K} {cc : ByteArray} {nL : Nat} {ret : Option FieldType} {rm : Room} {l : Launch} {pc pc2 : Nat} {lv : List (Nat × Value)} {st : List Value} {σ : sx_M} {τ : sx_L} {n : Nat} {Q : Int32 → sx_M → Prop} (hX : sx_C X K cc nL "SensorTree" ret rm l) (hK : kx_C K) (h : wp_Ne_greatestRank n σ Q) (hn : n < 25) (hR : rm_Ne_greatestRank.frames + 1 ≤ rm.frames ∧ 8 + (4 + 11) + rm_Ne_greatestRank.locals ≤ rm.locals) (hst : (st.map fun v => v.category).sum ≤ 8) (hd : decode cc pc = .ok (.invokevirtual 309, 3)) (hpc : pc + 3 = pc2) (kk : ∀ (r : Int32) (σ2 : sx_M) (τ2 : sx_L), Q r σ2 → sx_G X K nL pc2 lv (.int r :: st) (sx_H K σ2 τ2)) : sx_G X K nL pc lv (.ref (K.2.2.1 16 n 0) :: st) (sx_H K σ τ) :=
  sx_callVi (Q := fun r σ _ => Q r σ) (As := []) hX (c_Ne_greatestRank hK n σ τ Q hn h) (hK 16 n 0 hn (by decide)) rfl rfl lk_354 lk_355 hy_Ne_greatestRank lk_352 lk_47 lk_353 ⟨rfl, rfl⟩ hR hst rfl hd hpc kk
def y_Ne_postsOn : MethodName := ⟨"SensorTree$Net", "postsOn", "()I"⟩
theorem hy_Ne_postsOn : y_Ne_postsOn.cls ≠ "java/lang/invoke/MethodHandle" ∧ y_Ne_postsOn.cls ≠ "java/lang/invoke/VarHandle" ∧ (parseMethodDescriptor y_Ne_postsOn.desc).map (fun d => d.parameters.length) = some 0 := by decide +kernel
theorem d_Ne_postsOn_0 : decode prog_5_method_13_code 0 = .ok (.iconst 0, 1) := by decide +kernel
theorem d_Ne_postsOn_1 : decode prog_5_method_13_code 1 = .ok (.istore_n 1, 1) := by decide +kernel
theorem d_Ne_postsOn_2 : decode prog_5_method_13_code 2 = .ok (.iconst 0, 1) := by decide +kernel
theorem d_Ne_postsOn_3 : decode prog_5_method_13_code 3 = .ok (.istore_n 2, 1) := by decide +kernel
theorem d_Ne_postsOn_4 : decode prog_5_method_13_code 4 = .ok (.iload_n 2, 1) := by decide +kernel
theorem d_Ne_postsOn_5 : decode prog_5_method_13_code 5 = .ok (.aload_n 0, 1) := by decide +kernel
theorem d_Ne_postsOn_6 : decode prog_5_method_13_code 6 = .ok (.getfield 53, 3) := by decide +kernel
theorem d_Ne_postsOn_9 : decode prog_5_method_13_code 9 = .ok (.getfield 58, 3) := by decide +kernel
theorem d_Ne_postsOn_12 : decode prog_5_method_13_code 12 = .ok (.if_icmp .ge 31, 3) := by decide +kernel
theorem d_Ne_postsOn_15 : decode prog_5_method_13_code 15 = .ok (.iload_n 1, 1) := by decide +kernel
theorem d_Ne_postsOn_16 : decode prog_5_method_13_code 16 = .ok (.aload_n 0, 1) := by decide +kernel
theorem d_Ne_postsOn_17 : decode prog_5_method_13_code 17 = .ok (.getfield 35, 3) := by decide +kernel
theorem d_Ne_postsOn_20 : decode prog_5_method_13_code 20 = .ok (.iload_n 2, 1) := by decide +kernel
theorem d_Ne_postsOn_21 : decode prog_5_method_13_code 21 = .ok (.aaload, 1) := by decide +kernel
theorem d_Ne_postsOn_22 : decode prog_5_method_13_code 22 = .ok (.getfield 83, 3) := by decide +kernel
theorem d_Ne_postsOn_25 : decode prog_5_method_13_code 25 = .ok (.ifCond .eq 9, 3) := by decide +kernel
theorem d_Ne_postsOn_28 : decode prog_5_method_13_code 28 = .ok (.iconst 1, 1) := by decide +kernel
theorem d_Ne_postsOn_29 : decode prog_5_method_13_code 29 = .ok (.iload_n 2, 1) := by decide +kernel
theorem d_Ne_postsOn_30 : decode prog_5_method_13_code 30 = .ok (.ishl, 1) := by decide +kernel
theorem d_Ne_postsOn_31 : decode prog_5_method_13_code 31 = .ok (.goto 4, 3) := by decide +kernel
theorem d_Ne_postsOn_34 : decode prog_5_method_13_code 34 = .ok (.iconst 0, 1) := by decide +kernel
theorem d_Ne_postsOn_35 : decode prog_5_method_13_code 35 = .ok (.ior, 1) := by decide +kernel
theorem d_Ne_postsOn_36 : decode prog_5_method_13_code 36 = .ok (.istore_n 1, 1) := by decide +kernel
theorem d_Ne_postsOn_37 : decode prog_5_method_13_code 37 = .ok (.iinc 2 1, 3) := by decide +kernel
theorem d_Ne_postsOn_40 : decode prog_5_method_13_code 40 = .ok (.goto (-36), 3) := by decide +kernel
theorem d_Ne_postsOn_43 : decode prog_5_method_13_code 43 = .ok (.iload_n 1, 1) := by decide +kernel
theorem d_Ne_postsOn_44 : decode prog_5_method_13_code 44 = .ok (.ireturn, 1) := by decide +kernel
def wp_Ne_postsOn_b35 (n : Nat) (k4 : Int32 → Int32 → sx_M → Prop) (Q : Int32 → sx_M → Prop) (v2 : Int32) (w0 : Int32) (w1 : Int32) (σ : sx_M) : Prop := k4 (w0 ||| w1) (v2 + 1) σ
def wp_Ne_postsOn_b4 (n : Nat)  (Q : Int32 → sx_M → Prop) : Nat → Int32 → Int32 → sx_M → Prop
  | 0, _, _, _ => False
  | f + 1, v1, v2, σ => if σ 8 0 0 0 ≤ v2 then (Q v1 σ) else (vp_in v2 7 ∧ (if σ 27 n v2.toNatClampNeg 0 = 0 then (wp_Ne_postsOn_b35 n (wp_Ne_postsOn_b4 n Q f) Q v2 v1 0 σ) else (wp_Ne_postsOn_b35 n (wp_Ne_postsOn_b4 n Q f) Q v2 v1 (1 <<< (v2 &&& 31)) σ)))
def wp_Ne_postsOn (n : Nat) (σ : sx_M) (Q : Int32 → sx_M → Prop) : Prop := ∃ f4, wp_Ne_postsOn_b4 n Q f4 0 0 σ
abbrev rm_Ne_postsOn : Room := { frames := 0, cells := 0, slots := 0, locals := 0 }
set_option maxRecDepth 100000 in
set_option maxHeartbeats 4000000 in
theorem g_Ne_postsOn_b35 {l : Launch} {K : sx_K} {X : sx_T} {n : Nat} {k4 : Int32 → Int32 → sx_M → Prop} {Q : Int32 → sx_M → Prop} (hX : sx_C X K prog_5_method_13_code 3 "SensorTree$Net" (some .int) rm_Ne_postsOn l) (hK : kx_C K) (hE : sx_E X K (sx_Qi K (fun r σ _ => Q r σ))) (hn : n < 25) (hk4 : ∀ (v1 : Int32) (v2 : Int32) (σ : sx_M) (τ : sx_L) , k4 v1 v2 σ → sx_G X K 3 4 [(0, .ref (K.2.2.1 16 n 0)), (1, .int v1), (2, .int v2)] [] (sx_H K σ τ)) (v2 : Int32) (w0 : Int32) (w1 : Int32) (σ : sx_M) (τ : sx_L)  (h : wp_Ne_postsOn_b35 n k4 Q  v2 w0 w1 σ) : sx_G X K 3 35 [(0, .ref (K.2.2.1 16 n 0)), (2, .int v2)] [.int w1, .int w0] (sx_H K σ τ) := by
  unfold wp_Ne_postsOn_b35 at h
  refine sx_ior (pc2 := 36) hX d_Ne_postsOn_35 rfl ?_
  refine sx_istore_n (pc2 := 37) hX _ [(0, .ref (K.2.2.1 16 n 0)), (1, .int (w0 ||| w1)), (2, .int v2)] [1, 0, 2] d_Ne_postsOn_36 rfl (by decide) rfl rfl rfl ?_
  refine sx_iinc (pc2 := 40) hX 2 _ [(0, .ref (K.2.2.1 16 n 0)), (1, .int (w0 ||| w1)), (2, .int (v2 + 1))] [1, 2, 0] d_Ne_postsOn_37 rfl (v2 + 1) rfl (by decide) rfl rfl rfl ?_
  refine sx_goto (tgt := 4) hX d_Ne_postsOn_40 (by decide) ?_
  exact hk4 (w0 ||| w1) (v2 + 1) _ _ h
set_option maxRecDepth 100000 in
set_option maxHeartbeats 4000000 in
theorem g_Ne_postsOn_b4 {l : Launch} {K : sx_K} {X : sx_T} {n : Nat}  {Q : Int32 → sx_M → Prop} (hX : sx_C X K prog_5_method_13_code 3 "SensorTree$Net" (some .int) rm_Ne_postsOn l) (hK : kx_C K) (hE : sx_E X K (sx_Qi K (fun r σ _ => Q r σ))) (hn : n < 25) : ∀ (f : Nat) (v1 : Int32) (v2 : Int32) (σ : sx_M) (τ : sx_L) , wp_Ne_postsOn_b4 n Q f v1 v2 σ → sx_G X K 3 4 [(0, .ref (K.2.2.1 16 n 0)), (1, .int v1), (2, .int v2)] [] (sx_H K σ τ) := by
  intro f
  induction f with
  | zero => intro v1 v2 σ τ h; exact (show False from h).elim
  | succ f ih =>
    intro v1 v2 σ τ h
    rw [wp_Ne_postsOn_b4] at h
    refine sx_iload_n (pc2 := 5) hX 2 d_Ne_postsOn_4 rfl rfl rfl ?_
    refine sx_aload_n (pc2 := 6) hX 0 d_Ne_postsOn_5 rfl rfl rfl ?_
    refine fg_Ne_53 (pc2 := 9) hX (hK 16 n 0 hn (by decide)) d_Ne_postsOn_6 rfl ?_
    refine fg_Ne_58 (pc2 := 12) hX (hK 8 0 0 (by decide) (by decide)) d_Ne_postsOn_9 rfl ?_
    refine sx_icmp_ge (tgt := 43) (pc2 := 15) hX d_Ne_postsOn_12 (by decide) rfl (fun hc1 => ?_) (fun hc1 => ?_)
    · replace h := sx_t h hc1
      refine sx_iload_n (pc2 := 44) hX 1 d_Ne_postsOn_43 rfl rfl rfl ?_
      exact sx_iret hX hE h d_Ne_postsOn_44
    · replace h := sx_f h hc1
      refine sx_iload_n (pc2 := 16) hX 1 d_Ne_postsOn_15 rfl rfl rfl ?_
      refine sx_aload_n (pc2 := 17) hX 0 d_Ne_postsOn_16 rfl rfl rfl ?_
      refine fg_Ne_35 (pc2 := 20) hX (hK 16 n 0 hn (by decide)) d_Ne_postsOn_17 rfl ?_
      refine sx_iload_n (pc2 := 21) hX 2 d_Ne_postsOn_20 rfl rfl rfl ?_
      obtain ⟨hc2, h⟩ := h
      refine sx_aald (a := K.2.2.1 27 n v2.toNatClampNeg) (pc2 := 22) hX (hK 17 n 0 hn (by decide)) 4 rfl rfl rfl hc2 d_Ne_postsOn_21 rfl ?_
      refine fg_Ne_83 (pc2 := 25) hX (hK 27 n v2.toNatClampNeg hn (sx_lt hc2)) d_Ne_postsOn_22 rfl ?_
      refine sx_if_eq (tgt := 34) (pc2 := 28) hX d_Ne_postsOn_25 (by decide) rfl (fun hc3 => ?_) (fun hc3 => ?_)
      · replace h := sx_t h hc3
        refine sx_iconst (v := 0) (pc2 := 35) hX d_Ne_postsOn_34 (by decide) rfl ?_
        refine sx_sub [(0, .ref (K.2.2.1 16 n 0)), (2, .int v2)] [0, 2] rfl ?_
        exact g_Ne_postsOn_b35 hX hK hE hn ih v2 v1 0 _ _ h
      · replace h := sx_f h hc3
        refine sx_iconst (v := 1) (pc2 := 29) hX d_Ne_postsOn_28 (by decide) rfl ?_
        refine sx_iload_n (pc2 := 30) hX 2 d_Ne_postsOn_29 rfl rfl rfl ?_
        refine sx_ishl (pc2 := 31) hX d_Ne_postsOn_30 rfl ?_
        refine sx_goto (tgt := 35) hX d_Ne_postsOn_31 (by decide) ?_
        refine sx_sub [(0, .ref (K.2.2.1 16 n 0)), (2, .int v2)] [0, 2] rfl ?_
        exact g_Ne_postsOn_b35 hX hK hE hn ih v2 v1 (1 <<< (v2 &&& 31)) _ _ h
set_option maxRecDepth 100000 in
set_option maxHeartbeats 4000000 in
theorem c_Ne_postsOn {l : Launch} {K : sx_K} (hK : kx_C K) (n : Nat) (σ : sx_M) (τ : sx_L) (Q : Int32 → sx_M → Prop) (hn : n < 25) (h : wp_Ne_postsOn n σ Q) : Met l y_Ne_postsOn (sx_wd y_Ne_postsOn prog_5_method_13_code 3 (some .int)) rm_Ne_postsOn (sx_Pc K [.ref (K.2.2.1 16 n 0)] σ τ) (sx_Qi K (fun r σ _ => Q r σ)) 0 0 (sx_A K) := by
  refine sx_met (by decide) (Nat.le_of_ble_eq_true rfl) (fun X hX hE => ?_)
  replace hX : sx_C X K prog_5_method_13_code 3 "SensorTree$Net" (some .int) rm_Ne_postsOn l := hX
  show sx_G X K 3 0 [(0, .ref (K.2.2.1 16 n 0))] [] (sx_H K σ τ)
  unfold wp_Ne_postsOn at h
  refine sx_iconst (v := 0) (pc2 := 1) hX d_Ne_postsOn_0 (by decide) rfl ?_
  refine sx_istore_n (pc2 := 2) hX _ [(0, .ref (K.2.2.1 16 n 0)), (1, .int 0)] [1, 0] d_Ne_postsOn_1 rfl (by decide) rfl rfl rfl ?_
  refine sx_iconst (v := 0) (pc2 := 3) hX d_Ne_postsOn_2 (by decide) rfl ?_
  refine sx_istore_n (pc2 := 4) hX _ [(0, .ref (K.2.2.1 16 n 0)), (1, .int 0), (2, .int 0)] [1, 2, 0] d_Ne_postsOn_3 rfl (by decide) rfl rfl rfl ?_
  obtain ⟨f4, h⟩ := h
  exact g_Ne_postsOn_b4 hX hK hE hn  f4 0 0 _ _ h
theorem cl_St_294 {X : sx_T} {K : sx_K} {cc : ByteArray} {nL : Nat} {ret : Option FieldType} {rm : Room} {l : Launch} {pc pc2 : Nat} {lv : List (Nat × Value)} {st : List Value} {σ : sx_M} {τ : sx_L} {n : Nat} {Q : Int32 → sx_M → Prop} (hX : sx_C X K cc nL "SensorTree" ret rm l) (hK : kx_C K) (h : wp_Ne_postsOn n σ Q) (hn : n < 25) (hR : rm_Ne_postsOn.frames + 1 ≤ rm.frames ∧ 8 + (3 + 11) + rm_Ne_postsOn.locals ≤ rm.locals) (hst : (st.map fun v => v.category).sum ≤ 8) (hd : decode cc pc = .ok (.invokevirtual 294, 3)) (hpc : pc + 3 = pc2) (kk : ∀ (r : Int32) (σ2 : sx_M) (τ2 : sx_L), Q r σ2 → sx_G X K nL pc2 lv (.int r :: st) (sx_H K σ2 τ2)) : sx_G X K nL pc lv (.ref (K.2.2.1 16 n 0) :: st) (sx_H K σ τ) :=
  sx_callVi (Q := fun r σ _ => Q r σ) (As := []) hX (c_Ne_postsOn hK n σ τ Q hn h) (hK 16 n 0 hn (by decide)) rfl rfl lk_347 lk_348 hy_Ne_postsOn lk_345 lk_47 lk_346 ⟨rfl, rfl⟩ hR hst rfl hd hpc kk
def y_Ne_postsResting : MethodName := ⟨"SensorTree$Net", "postsResting", "()I"⟩
theorem hy_Ne_postsResting : y_Ne_postsResting.cls ≠ "java/lang/invoke/MethodHandle" ∧ y_Ne_postsResting.cls ≠ "java/lang/invoke/VarHandle" ∧ (parseMethodDescriptor y_Ne_postsResting.desc).map (fun d => d.parameters.length) = some 0 := by decide +kernel
theorem d_Ne_postsResting_0 : decode prog_5_method_14_code 0 = .ok (.iconst 0, 1) := by decide +kernel
theorem d_Ne_postsResting_1 : decode prog_5_method_14_code 1 = .ok (.istore_n 1, 1) := by decide +kernel
theorem d_Ne_postsResting_2 : decode prog_5_method_14_code 2 = .ok (.iconst 0, 1) := by decide +kernel
theorem d_Ne_postsResting_3 : decode prog_5_method_14_code 3 = .ok (.istore_n 2, 1) := by decide +kernel
theorem d_Ne_postsResting_4 : decode prog_5_method_14_code 4 = .ok (.iload_n 2, 1) := by decide +kernel
theorem d_Ne_postsResting_5 : decode prog_5_method_14_code 5 = .ok (.aload_n 0, 1) := by decide +kernel
theorem d_Ne_postsResting_6 : decode prog_5_method_14_code 6 = .ok (.getfield 53, 3) := by decide +kernel
theorem d_Ne_postsResting_9 : decode prog_5_method_14_code 9 = .ok (.getfield 58, 3) := by decide +kernel
theorem d_Ne_postsResting_12 : decode prog_5_method_14_code 12 = .ok (.if_icmp .ge 31, 3) := by decide +kernel
theorem d_Ne_postsResting_15 : decode prog_5_method_14_code 15 = .ok (.iload_n 1, 1) := by decide +kernel
theorem d_Ne_postsResting_16 : decode prog_5_method_14_code 16 = .ok (.aload_n 0, 1) := by decide +kernel
theorem d_Ne_postsResting_17 : decode prog_5_method_14_code 17 = .ok (.getfield 35, 3) := by decide +kernel
theorem d_Ne_postsResting_20 : decode prog_5_method_14_code 20 = .ok (.iload_n 2, 1) := by decide +kernel
theorem d_Ne_postsResting_21 : decode prog_5_method_14_code 21 = .ok (.aaload, 1) := by decide +kernel
theorem d_Ne_postsResting_22 : decode prog_5_method_14_code 22 = .ok (.getfield 120, 3) := by decide +kernel
theorem d_Ne_postsResting_25 : decode prog_5_method_14_code 25 = .ok (.ifCond .le 9, 3) := by decide +kernel
theorem d_Ne_postsResting_28 : decode prog_5_method_14_code 28 = .ok (.iconst 1, 1) := by decide +kernel
theorem d_Ne_postsResting_29 : decode prog_5_method_14_code 29 = .ok (.iload_n 2, 1) := by decide +kernel
theorem d_Ne_postsResting_30 : decode prog_5_method_14_code 30 = .ok (.ishl, 1) := by decide +kernel
theorem d_Ne_postsResting_31 : decode prog_5_method_14_code 31 = .ok (.goto 4, 3) := by decide +kernel
theorem d_Ne_postsResting_34 : decode prog_5_method_14_code 34 = .ok (.iconst 0, 1) := by decide +kernel
theorem d_Ne_postsResting_35 : decode prog_5_method_14_code 35 = .ok (.ior, 1) := by decide +kernel
theorem d_Ne_postsResting_36 : decode prog_5_method_14_code 36 = .ok (.istore_n 1, 1) := by decide +kernel
theorem d_Ne_postsResting_37 : decode prog_5_method_14_code 37 = .ok (.iinc 2 1, 3) := by decide +kernel
theorem d_Ne_postsResting_40 : decode prog_5_method_14_code 40 = .ok (.goto (-36), 3) := by decide +kernel
theorem d_Ne_postsResting_43 : decode prog_5_method_14_code 43 = .ok (.iload_n 1, 1) := by decide +kernel
theorem d_Ne_postsResting_44 : decode prog_5_method_14_code 44 = .ok (.ireturn, 1) := by decide +kernel
def wp_Ne_postsResting_b35 (n : Nat) (k4 : Int32 → Int32 → sx_M → Prop) (Q : Int32 → sx_M → Prop) (v2 : Int32) (w0 : Int32) (w1 : Int32) (σ : sx_M) : Prop := k4 (w0 ||| w1) (v2 + 1) σ
def wp_Ne_postsResting_b4 (n : Nat)  (Q : Int32 → sx_M → Prop) : Nat → Int32 → Int32 → sx_M → Prop
  | 0, _, _, _ => False
  | f + 1, v1, v2, σ => if σ 8 0 0 0 ≤ v2 then (Q v1 σ) else (vp_in v2 7 ∧ (if σ 27 n v2.toNatClampNeg 5 ≤ 0 then (wp_Ne_postsResting_b35 n (wp_Ne_postsResting_b4 n Q f) Q v2 v1 0 σ) else (wp_Ne_postsResting_b35 n (wp_Ne_postsResting_b4 n Q f) Q v2 v1 (1 <<< (v2 &&& 31)) σ)))
def wp_Ne_postsResting (n : Nat) (σ : sx_M) (Q : Int32 → sx_M → Prop) : Prop := ∃ f4, wp_Ne_postsResting_b4 n Q f4 0 0 σ
abbrev rm_Ne_postsResting : Room := { frames := 0, cells := 0, slots := 0, locals := 0 }
set_option maxRecDepth 100000 in
set_option maxHeartbeats 4000000 in
theorem g_Ne_postsResting_b35 {l : Launch} {K : sx_K} {X : sx_T} {n : Nat} {k4 : Int32 → Int32 → sx_M → Prop} {Q : Int32 → sx_M → Prop} (hX : sx_C X K prog_5_method_14_code 3 "SensorTree$Net" (some .int) rm_Ne_postsResting l) (hK : kx_C K) (hE : sx_E X K (sx_Qi K (fun r σ _ => Q r σ))) (hn : n < 25) (hk4 : ∀ (v1 : Int32) (v2 : Int32) (σ : sx_M) (τ : sx_L) , k4 v1 v2 σ → sx_G X K 3 4 [(0, .ref (K.2.2.1 16 n 0)), (1, .int v1), (2, .int v2)] [] (sx_H K σ τ)) (v2 : Int32) (w0 : Int32) (w1 : Int32) (σ : sx_M) (τ : sx_L)  (h : wp_Ne_postsResting_b35 n k4 Q  v2 w0 w1 σ) : sx_G X K 3 35 [(0, .ref (K.2.2.1 16 n 0)), (2, .int v2)] [.int w1, .int w0] (sx_H K σ τ) := by
  unfold wp_Ne_postsResting_b35 at h
  refine sx_ior (pc2 := 36) hX d_Ne_postsResting_35 rfl ?_
  refine sx_istore_n (pc2 := 37) hX _ [(0, .ref (K.2.2.1 16 n 0)), (1, .int (w0 ||| w1)), (2, .int v2)] [1, 0, 2] d_Ne_postsResting_36 rfl (by decide) rfl rfl rfl ?_
  refine sx_iinc (pc2 := 40) hX 2 _ [(0, .ref (K.2.2.1 16 n 0)), (1, .int (w0 ||| w1)), (2, .int (v2 + 1))] [1, 2, 0] d_Ne_postsResting_37 rfl (v2 + 1) rfl (by decide) rfl rfl rfl ?_
  refine sx_goto (tgt := 4) hX d_Ne_postsResting_40 (by decide) ?_
  exact hk4 (w0 ||| w1) (v2 + 1) _ _ h
set_option maxRecDepth 100000 in
set_option maxHeartbeats 4000000 in
theorem g_Ne_postsResting_b4 {l : Launch} {K : sx_K} {X : sx_T} {n : Nat}  {Q : Int32 → sx_M → Prop} (hX : sx_C X K prog_5_method_14_code 3 "SensorTree$Net" (some .int) rm_Ne_postsResting l) (hK : kx_C K) (hE : sx_E X K (sx_Qi K (fun r σ _ => Q r σ))) (hn : n < 25) : ∀ (f : Nat) (v1 : Int32) (v2 : Int32) (σ : sx_M) (τ : sx_L) , wp_Ne_postsResting_b4 n Q f v1 v2 σ → sx_G X K 3 4 [(0, .ref (K.2.2.1 16 n 0)), (1, .int v1), (2, .int v2)] [] (sx_H K σ τ) := by
  intro f
  induction f with
  | zero => intro v1 v2 σ τ h; exact (show False from h).elim
  | succ f ih =>
    intro v1 v2 σ τ h
    rw [wp_Ne_postsResting_b4] at h
    refine sx_iload_n (pc2 := 5) hX 2 d_Ne_postsResting_4 rfl rfl rfl ?_
    refine sx_aload_n (pc2 := 6) hX 0 d_Ne_postsResting_5 rfl rfl rfl ?_
    refine fg_Ne_53 (pc2 := 9) hX (hK 16 n 0 hn (by decide)) d_Ne_postsResting_6 rfl ?_
    refine fg_Ne_58 (pc2 := 12) hX (hK 8 0 0 (by decide) (by decide)) d_Ne_postsResting_9 rfl ?_
    refine sx_icmp_ge (tgt := 43) (pc2 := 15) hX d_Ne_postsResting_12 (by decide) rfl (fun hc1 => ?_) (fun hc1 => ?_)
    · replace h := sx_t h hc1
      refine sx_iload_n (pc2 := 44) hX 1 d_Ne_postsResting_43 rfl rfl rfl ?_
      exact sx_iret hX hE h d_Ne_postsResting_44
    · replace h := sx_f h hc1
      refine sx_iload_n (pc2 := 16) hX 1 d_Ne_postsResting_15 rfl rfl rfl ?_
      refine sx_aload_n (pc2 := 17) hX 0 d_Ne_postsResting_16 rfl rfl rfl ?_
      refine fg_Ne_35 (pc2 := 20) hX (hK 16 n 0 hn (by decide)) d_Ne_postsResting_17 rfl ?_
      refine sx_iload_n (pc2 := 21) hX 2 d_Ne_postsResting_20 rfl rfl rfl ?_
      obtain ⟨hc2, h⟩ := h
      refine sx_aald (a := K.2.2.1 27 n v2.toNatClampNeg) (pc2 := 22) hX (hK 17 n 0 hn (by decide)) 4 rfl rfl rfl hc2 d_Ne_postsResting_21 rfl ?_
      refine fg_Ne_120 (pc2 := 25) hX (hK 27 n v2.toNatClampNeg hn (sx_lt hc2)) d_Ne_postsResting_22 rfl ?_
      refine sx_if_le (tgt := 34) (pc2 := 28) hX d_Ne_postsResting_25 (by decide) rfl (fun hc3 => ?_) (fun hc3 => ?_)
      · replace h := sx_t h hc3
        refine sx_iconst (v := 0) (pc2 := 35) hX d_Ne_postsResting_34 (by decide) rfl ?_
        refine sx_sub [(0, .ref (K.2.2.1 16 n 0)), (2, .int v2)] [0, 2] rfl ?_
        exact g_Ne_postsResting_b35 hX hK hE hn ih v2 v1 0 _ _ h
      · replace h := sx_f h hc3
        refine sx_iconst (v := 1) (pc2 := 29) hX d_Ne_postsResting_28 (by decide) rfl ?_
        refine sx_iload_n (pc2 := 30) hX 2 d_Ne_postsResting_29 rfl rfl rfl ?_
        refine sx_ishl (pc2 := 31) hX d_Ne_postsResting_30 rfl ?_
        refine sx_goto (tgt := 35) hX d_Ne_postsResting_31 (by decide) ?_
        refine sx_sub [(0, .ref (K.2.2.1 16 n 0)), (2, .int v2)] [0, 2] rfl ?_
        exact g_Ne_postsResting_b35 hX hK hE hn ih v2 v1 (1 <<< (v2 &&& 31)) _ _ h
set_option maxRecDepth 100000 in
set_option maxHeartbeats 4000000 in
theorem c_Ne_postsResting {l : Launch} {K : sx_K} (hK : kx_C K) (n : Nat) (σ : sx_M) (τ : sx_L) (Q : Int32 → sx_M → Prop) (hn : n < 25) (h : wp_Ne_postsResting n σ Q) : Met l y_Ne_postsResting (sx_wd y_Ne_postsResting prog_5_method_14_code 3 (some .int)) rm_Ne_postsResting (sx_Pc K [.ref (K.2.2.1 16 n 0)] σ τ) (sx_Qi K (fun r σ _ => Q r σ)) 0 0 (sx_A K) := by
  refine sx_met (by decide) (Nat.le_of_ble_eq_true rfl) (fun X hX hE => ?_)
  replace hX : sx_C X K prog_5_method_14_code 3 "SensorTree$Net" (some .int) rm_Ne_postsResting l := hX
  show sx_G X K 3 0 [(0, .ref (K.2.2.1 16 n 0))] [] (sx_H K σ τ)
  unfold wp_Ne_postsResting at h
  refine sx_iconst (v := 0) (pc2 := 1) hX d_Ne_postsResting_0 (by decide) rfl ?_
  refine sx_istore_n (pc2 := 2) hX _ [(0, .ref (K.2.2.1 16 n 0)), (1, .int 0)] [1, 0] d_Ne_postsResting_1 rfl (by decide) rfl rfl rfl ?_
  refine sx_iconst (v := 0) (pc2 := 3) hX d_Ne_postsResting_2 (by decide) rfl ?_
  refine sx_istore_n (pc2 := 4) hX _ [(0, .ref (K.2.2.1 16 n 0)), (1, .int 0), (2, .int 0)] [1, 2, 0] d_Ne_postsResting_3 rfl (by decide) rfl rfl rfl ?_
  obtain ⟨f4, h⟩ := h
  exact g_Ne_postsResting_b4 hX hK hE hn  f4 0 0 _ _ h
theorem cl_St_312 {X : sx_T} {K : sx_K} {cc : ByteArray} {nL : Nat} {ret : Option FieldType} {rm : Room} {l : Launch} {pc pc2 : Nat} {lv : List (Nat × Value)} {st : List Value} {σ : sx_M} {τ : sx_L} {n : Nat} {Q : Int32 → sx_M → Prop} (hX : sx_C X K cc nL "SensorTree" ret rm l) (hK : kx_C K) (h : wp_Ne_postsResting n σ Q) (hn : n < 25) (hR : rm_Ne_postsResting.frames + 1 ≤ rm.frames ∧ 8 + (3 + 11) + rm_Ne_postsResting.locals ≤ rm.locals) (hst : (st.map fun v => v.category).sum ≤ 8) (hd : decode cc pc = .ok (.invokevirtual 312, 3)) (hpc : pc + 3 = pc2) (kk : ∀ (r : Int32) (σ2 : sx_M) (τ2 : sx_L), Q r σ2 → sx_G X K nL pc2 lv (.int r :: st) (sx_H K σ2 τ2)) : sx_G X K nL pc lv (.ref (K.2.2.1 16 n 0) :: st) (sx_H K σ τ) :=
  sx_callVi (Q := fun r σ _ => Q r σ) (As := []) hX (c_Ne_postsResting hK n σ τ Q hn h) (hK 16 n 0 hn (by decide)) rfl rfl lk_358 lk_359 hy_Ne_postsResting lk_356 lk_47 lk_357 ⟨rfl, rfl⟩ hR hst rfl hd hpc kk
def y_Ne_postsAlone : MethodName := ⟨"SensorTree$Net", "postsAlone", "()I"⟩
theorem hy_Ne_postsAlone : y_Ne_postsAlone.cls ≠ "java/lang/invoke/MethodHandle" ∧ y_Ne_postsAlone.cls ≠ "java/lang/invoke/VarHandle" ∧ (parseMethodDescriptor y_Ne_postsAlone.desc).map (fun d => d.parameters.length) = some 0 := by decide +kernel
theorem d_Ne_postsAlone_0 : decode prog_5_method_15_code 0 = .ok (.iconst 0, 1) := by decide +kernel
theorem d_Ne_postsAlone_1 : decode prog_5_method_15_code 1 = .ok (.istore_n 1, 1) := by decide +kernel
theorem d_Ne_postsAlone_2 : decode prog_5_method_15_code 2 = .ok (.iconst 1, 1) := by decide +kernel
theorem d_Ne_postsAlone_3 : decode prog_5_method_15_code 3 = .ok (.istore_n 2, 1) := by decide +kernel
theorem d_Ne_postsAlone_4 : decode prog_5_method_15_code 4 = .ok (.iload_n 2, 1) := by decide +kernel
theorem d_Ne_postsAlone_5 : decode prog_5_method_15_code 5 = .ok (.aload_n 0, 1) := by decide +kernel
theorem d_Ne_postsAlone_6 : decode prog_5_method_15_code 6 = .ok (.getfield 53, 3) := by decide +kernel
theorem d_Ne_postsAlone_9 : decode prog_5_method_15_code 9 = .ok (.getfield 58, 3) := by decide +kernel
theorem d_Ne_postsAlone_12 : decode prog_5_method_15_code 12 = .ok (.if_icmp .ge 45, 3) := by decide +kernel
theorem d_Ne_postsAlone_15 : decode prog_5_method_15_code 15 = .ok (.iload_n 1, 1) := by decide +kernel
theorem d_Ne_postsAlone_16 : decode prog_5_method_15_code 16 = .ok (.aload_n 0, 1) := by decide +kernel
theorem d_Ne_postsAlone_17 : decode prog_5_method_15_code 17 = .ok (.getfield 35, 3) := by decide +kernel
theorem d_Ne_postsAlone_20 : decode prog_5_method_15_code 20 = .ok (.iload_n 2, 1) := by decide +kernel
theorem d_Ne_postsAlone_21 : decode prog_5_method_15_code 21 = .ok (.aaload, 1) := by decide +kernel
theorem d_Ne_postsAlone_22 : decode prog_5_method_15_code 22 = .ok (.getfield 83, 3) := by decide +kernel
theorem d_Ne_postsAlone_25 : decode prog_5_method_15_code 25 = .ok (.ifCond .eq 23, 3) := by decide +kernel
theorem d_Ne_postsAlone_28 : decode prog_5_method_15_code 28 = .ok (.aload_n 0, 1) := by decide +kernel
theorem d_Ne_postsAlone_29 : decode prog_5_method_15_code 29 = .ok (.getfield 35, 3) := by decide +kernel
theorem d_Ne_postsAlone_32 : decode prog_5_method_15_code 32 = .ok (.iload_n 2, 1) := by decide +kernel
theorem d_Ne_postsAlone_33 : decode prog_5_method_15_code 33 = .ok (.aaload, 1) := by decide +kernel
theorem d_Ne_postsAlone_34 : decode prog_5_method_15_code 34 = .ok (.getfield 102, 3) := by decide +kernel
theorem d_Ne_postsAlone_37 : decode prog_5_method_15_code 37 = .ok (.bipush (-2), 2) := by decide +kernel
theorem d_Ne_postsAlone_39 : decode prog_5_method_15_code 39 = .ok (.if_icmp .ne 9, 3) := by decide +kernel
theorem d_Ne_postsAlone_42 : decode prog_5_method_15_code 42 = .ok (.iconst 1, 1) := by decide +kernel
theorem d_Ne_postsAlone_43 : decode prog_5_method_15_code 43 = .ok (.iload_n 2, 1) := by decide +kernel
theorem d_Ne_postsAlone_44 : decode prog_5_method_15_code 44 = .ok (.ishl, 1) := by decide +kernel
theorem d_Ne_postsAlone_45 : decode prog_5_method_15_code 45 = .ok (.goto 4, 3) := by decide +kernel
theorem d_Ne_postsAlone_48 : decode prog_5_method_15_code 48 = .ok (.iconst 0, 1) := by decide +kernel
theorem d_Ne_postsAlone_49 : decode prog_5_method_15_code 49 = .ok (.ior, 1) := by decide +kernel
theorem d_Ne_postsAlone_50 : decode prog_5_method_15_code 50 = .ok (.istore_n 1, 1) := by decide +kernel
theorem d_Ne_postsAlone_51 : decode prog_5_method_15_code 51 = .ok (.iinc 2 1, 3) := by decide +kernel
theorem d_Ne_postsAlone_54 : decode prog_5_method_15_code 54 = .ok (.goto (-50), 3) := by decide +kernel
theorem d_Ne_postsAlone_57 : decode prog_5_method_15_code 57 = .ok (.iload_n 1, 1) := by decide +kernel
theorem d_Ne_postsAlone_58 : decode prog_5_method_15_code 58 = .ok (.ireturn, 1) := by decide +kernel
def wp_Ne_postsAlone_b49 (n : Nat) (k4 : Int32 → Int32 → sx_M → Prop) (Q : Int32 → sx_M → Prop) (v2 : Int32) (w0 : Int32) (w1 : Int32) (σ : sx_M) : Prop := k4 (w0 ||| w1) (v2 + 1) σ
def wp_Ne_postsAlone_b48 (n : Nat) (k4 : Int32 → Int32 → sx_M → Prop) (Q : Int32 → sx_M → Prop) (v2 : Int32) (w0 : Int32) (σ : sx_M) : Prop := wp_Ne_postsAlone_b49 n k4 Q v2 w0 0 σ
def wp_Ne_postsAlone_b4 (n : Nat)  (Q : Int32 → sx_M → Prop) : Nat → Int32 → Int32 → sx_M → Prop
  | 0, _, _, _ => False
  | f + 1, v1, v2, σ => if σ 8 0 0 0 ≤ v2 then (Q v1 σ) else (vp_in v2 7 ∧ (if σ 27 n v2.toNatClampNeg 0 = 0 then (wp_Ne_postsAlone_b48 n (wp_Ne_postsAlone_b4 n Q f) Q v2 v1 σ) else (vp_in v2 7 ∧ (if σ 27 n v2.toNatClampNeg 3 = (-2) then (wp_Ne_postsAlone_b49 n (wp_Ne_postsAlone_b4 n Q f) Q v2 v1 (1 <<< (v2 &&& 31)) σ) else (wp_Ne_postsAlone_b48 n (wp_Ne_postsAlone_b4 n Q f) Q v2 v1 σ)))))
def wp_Ne_postsAlone (n : Nat) (σ : sx_M) (Q : Int32 → sx_M → Prop) : Prop := ∃ f4, wp_Ne_postsAlone_b4 n Q f4 0 1 σ
abbrev rm_Ne_postsAlone : Room := { frames := 0, cells := 0, slots := 0, locals := 0 }
set_option maxRecDepth 100000 in
set_option maxHeartbeats 4000000 in
theorem g_Ne_postsAlone_b49 {l : Launch} {K : sx_K} {X : sx_T} {n : Nat} {k4 : Int32 → Int32 → sx_M → Prop} {Q : Int32 → sx_M → Prop} (hX : sx_C X K prog_5_method_15_code 3 "SensorTree$Net" (some .int) rm_Ne_postsAlone l) (hK : kx_C K) (hE : sx_E X K (sx_Qi K (fun r σ _ => Q r σ))) (hn : n < 25) (hk4 : ∀ (v1 : Int32) (v2 : Int32) (σ : sx_M) (τ : sx_L) , k4 v1 v2 σ → sx_G X K 3 4 [(0, .ref (K.2.2.1 16 n 0)), (1, .int v1), (2, .int v2)] [] (sx_H K σ τ)) (v2 : Int32) (w0 : Int32) (w1 : Int32) (σ : sx_M) (τ : sx_L)  (h : wp_Ne_postsAlone_b49 n k4 Q  v2 w0 w1 σ) : sx_G X K 3 49 [(0, .ref (K.2.2.1 16 n 0)), (2, .int v2)] [.int w1, .int w0] (sx_H K σ τ) := by
  unfold wp_Ne_postsAlone_b49 at h
  refine sx_ior (pc2 := 50) hX d_Ne_postsAlone_49 rfl ?_
  refine sx_istore_n (pc2 := 51) hX _ [(0, .ref (K.2.2.1 16 n 0)), (1, .int (w0 ||| w1)), (2, .int v2)] [1, 0, 2] d_Ne_postsAlone_50 rfl (by decide) rfl rfl rfl ?_
  refine sx_iinc (pc2 := 54) hX 2 _ [(0, .ref (K.2.2.1 16 n 0)), (1, .int (w0 ||| w1)), (2, .int (v2 + 1))] [1, 2, 0] d_Ne_postsAlone_51 rfl (v2 + 1) rfl (by decide) rfl rfl rfl ?_
  refine sx_goto (tgt := 4) hX d_Ne_postsAlone_54 (by decide) ?_
  exact hk4 (w0 ||| w1) (v2 + 1) _ _ h
set_option maxRecDepth 100000 in
set_option maxHeartbeats 4000000 in
theorem g_Ne_postsAlone_b48 {l : Launch} {K : sx_K} {X : sx_T} {n : Nat} {k4 : Int32 → Int32 → sx_M → Prop} {Q : Int32 → sx_M → Prop} (hX : sx_C X K prog_5_method_15_code 3 "SensorTree$Net" (some .int) rm_Ne_postsAlone l) (hK : kx_C K) (hE : sx_E X K (sx_Qi K (fun r σ _ => Q r σ))) (hn : n < 25) (hk4 : ∀ (v1 : Int32) (v2 : Int32) (σ : sx_M) (τ : sx_L) , k4 v1 v2 σ → sx_G X K 3 4 [(0, .ref (K.2.2.1 16 n 0)), (1, .int v1), (2, .int v2)] [] (sx_H K σ τ)) (v2 : Int32) (w0 : Int32) (σ : sx_M) (τ : sx_L)  (h : wp_Ne_postsAlone_b48 n k4 Q  v2 w0 σ) : sx_G X K 3 48 [(0, .ref (K.2.2.1 16 n 0)), (2, .int v2)] [.int w0] (sx_H K σ τ) := by
  unfold wp_Ne_postsAlone_b48 at h
  refine sx_iconst (v := 0) (pc2 := 49) hX d_Ne_postsAlone_48 (by decide) rfl ?_
  exact g_Ne_postsAlone_b49 hX hK hE hn hk4 v2 w0 0 _ _ h
set_option maxRecDepth 100000 in
set_option maxHeartbeats 4000000 in
theorem g_Ne_postsAlone_b4 {l : Launch} {K : sx_K} {X : sx_T} {n : Nat}  {Q : Int32 → sx_M → Prop} (hX : sx_C X K prog_5_method_15_code 3 "SensorTree$Net" (some .int) rm_Ne_postsAlone l) (hK : kx_C K) (hE : sx_E X K (sx_Qi K (fun r σ _ => Q r σ))) (hn : n < 25) : ∀ (f : Nat) (v1 : Int32) (v2 : Int32) (σ : sx_M) (τ : sx_L) , wp_Ne_postsAlone_b4 n Q f v1 v2 σ → sx_G X K 3 4 [(0, .ref (K.2.2.1 16 n 0)), (1, .int v1), (2, .int v2)] [] (sx_H K σ τ) := by
  intro f
  induction f with
  | zero => intro v1 v2 σ τ h; exact (show False from h).elim
  | succ f ih =>
    intro v1 v2 σ τ h
    rw [wp_Ne_postsAlone_b4] at h
    refine sx_iload_n (pc2 := 5) hX 2 d_Ne_postsAlone_4 rfl rfl rfl ?_
    refine sx_aload_n (pc2 := 6) hX 0 d_Ne_postsAlone_5 rfl rfl rfl ?_
    refine fg_Ne_53 (pc2 := 9) hX (hK 16 n 0 hn (by decide)) d_Ne_postsAlone_6 rfl ?_
    refine fg_Ne_58 (pc2 := 12) hX (hK 8 0 0 (by decide) (by decide)) d_Ne_postsAlone_9 rfl ?_
    refine sx_icmp_ge (tgt := 57) (pc2 := 15) hX d_Ne_postsAlone_12 (by decide) rfl (fun hc1 => ?_) (fun hc1 => ?_)
    · replace h := sx_t h hc1
      refine sx_iload_n (pc2 := 58) hX 1 d_Ne_postsAlone_57 rfl rfl rfl ?_
      exact sx_iret hX hE h d_Ne_postsAlone_58
    · replace h := sx_f h hc1
      refine sx_iload_n (pc2 := 16) hX 1 d_Ne_postsAlone_15 rfl rfl rfl ?_
      refine sx_aload_n (pc2 := 17) hX 0 d_Ne_postsAlone_16 rfl rfl rfl ?_
      refine fg_Ne_35 (pc2 := 20) hX (hK 16 n 0 hn (by decide)) d_Ne_postsAlone_17 rfl ?_
      refine sx_iload_n (pc2 := 21) hX 2 d_Ne_postsAlone_20 rfl rfl rfl ?_
      obtain ⟨hc2, h⟩ := h
      refine sx_aald (a := K.2.2.1 27 n v2.toNatClampNeg) (pc2 := 22) hX (hK 17 n 0 hn (by decide)) 4 rfl rfl rfl hc2 d_Ne_postsAlone_21 rfl ?_
      refine fg_Ne_83 (pc2 := 25) hX (hK 27 n v2.toNatClampNeg hn (sx_lt hc2)) d_Ne_postsAlone_22 rfl ?_
      refine sx_if_eq (tgt := 48) (pc2 := 28) hX d_Ne_postsAlone_25 (by decide) rfl (fun hc3 => ?_) (fun hc3 => ?_)
      · replace h := sx_t h hc3
        refine sx_sub [(0, .ref (K.2.2.1 16 n 0)), (2, .int v2)] [0, 2] rfl ?_
        exact g_Ne_postsAlone_b48 hX hK hE hn ih v2 v1 _ _ h
      · replace h := sx_f h hc3
        refine sx_aload_n (pc2 := 29) hX 0 d_Ne_postsAlone_28 rfl rfl rfl ?_
        refine fg_Ne_35 (pc2 := 32) hX (hK 16 n 0 hn (by decide)) d_Ne_postsAlone_29 rfl ?_
        refine sx_iload_n (pc2 := 33) hX 2 d_Ne_postsAlone_32 rfl rfl rfl ?_
        obtain ⟨hc4, h⟩ := h
        refine sx_aald (a := K.2.2.1 27 n v2.toNatClampNeg) (pc2 := 34) hX (hK 17 n 0 hn (by decide)) 4 rfl rfl rfl hc4 d_Ne_postsAlone_33 rfl ?_
        refine fg_Ne_102 (pc2 := 37) hX (hK 27 n v2.toNatClampNeg hn (sx_lt hc4)) d_Ne_postsAlone_34 rfl ?_
        refine sx_bipush (v := (-2)) (pc2 := 39) hX d_Ne_postsAlone_37 (by decide) rfl ?_
        refine sx_icmp_ne (tgt := 48) (pc2 := 42) hX d_Ne_postsAlone_39 (by decide) rfl (fun hc5 => ?_) (fun hc5 => ?_)
        · replace h := sx_f h hc5
          refine sx_sub [(0, .ref (K.2.2.1 16 n 0)), (2, .int v2)] [0, 2] rfl ?_
          exact g_Ne_postsAlone_b48 hX hK hE hn ih v2 v1 _ _ h
        · replace h := sx_t h hc5
          refine sx_iconst (v := 1) (pc2 := 43) hX d_Ne_postsAlone_42 (by decide) rfl ?_
          refine sx_iload_n (pc2 := 44) hX 2 d_Ne_postsAlone_43 rfl rfl rfl ?_
          refine sx_ishl (pc2 := 45) hX d_Ne_postsAlone_44 rfl ?_
          refine sx_goto (tgt := 49) hX d_Ne_postsAlone_45 (by decide) ?_
          refine sx_sub [(0, .ref (K.2.2.1 16 n 0)), (2, .int v2)] [0, 2] rfl ?_
          exact g_Ne_postsAlone_b49 hX hK hE hn ih v2 v1 (1 <<< (v2 &&& 31)) _ _ h
set_option maxRecDepth 100000 in
set_option maxHeartbeats 4000000 in
theorem c_Ne_postsAlone {l : Launch} {K : sx_K} (hK : kx_C K) (n : Nat) (σ : sx_M) (τ : sx_L) (Q : Int32 → sx_M → Prop) (hn : n < 25) (h : wp_Ne_postsAlone n σ Q) : Met l y_Ne_postsAlone (sx_wd y_Ne_postsAlone prog_5_method_15_code 3 (some .int)) rm_Ne_postsAlone (sx_Pc K [.ref (K.2.2.1 16 n 0)] σ τ) (sx_Qi K (fun r σ _ => Q r σ)) 0 0 (sx_A K) := by
  refine sx_met (by decide) (Nat.le_of_ble_eq_true rfl) (fun X hX hE => ?_)
  replace hX : sx_C X K prog_5_method_15_code 3 "SensorTree$Net" (some .int) rm_Ne_postsAlone l := hX
  show sx_G X K 3 0 [(0, .ref (K.2.2.1 16 n 0))] [] (sx_H K σ τ)
  unfold wp_Ne_postsAlone at h
  refine sx_iconst (v := 0) (pc2 := 1) hX d_Ne_postsAlone_0 (by decide) rfl ?_
  refine sx_istore_n (pc2 := 2) hX _ [(0, .ref (K.2.2.1 16 n 0)), (1, .int 0)] [1, 0] d_Ne_postsAlone_1 rfl (by decide) rfl rfl rfl ?_
  refine sx_iconst (v := 1) (pc2 := 3) hX d_Ne_postsAlone_2 (by decide) rfl ?_
  refine sx_istore_n (pc2 := 4) hX _ [(0, .ref (K.2.2.1 16 n 0)), (1, .int 0), (2, .int 1)] [1, 2, 0] d_Ne_postsAlone_3 rfl (by decide) rfl rfl rfl ?_
  obtain ⟨f4, h⟩ := h
  exact g_Ne_postsAlone_b4 hX hK hE hn  f4 0 1 _ _ h
theorem cl_St_315 {X : sx_T} {K : sx_K} {cc : ByteArray} {nL : Nat} {ret : Option FieldType} {rm : Room} {l : Launch} {pc pc2 : Nat} {lv : List (Nat × Value)} {st : List Value} {σ : sx_M} {τ : sx_L} {n : Nat} {Q : Int32 → sx_M → Prop} (hX : sx_C X K cc nL "SensorTree" ret rm l) (hK : kx_C K) (h : wp_Ne_postsAlone n σ Q) (hn : n < 25) (hR : rm_Ne_postsAlone.frames + 1 ≤ rm.frames ∧ 8 + (3 + 11) + rm_Ne_postsAlone.locals ≤ rm.locals) (hst : (st.map fun v => v.category).sum ≤ 8) (hd : decode cc pc = .ok (.invokevirtual 315, 3)) (hpc : pc + 3 = pc2) (kk : ∀ (r : Int32) (σ2 : sx_M) (τ2 : sx_L), Q r σ2 → sx_G X K nL pc2 lv (.int r :: st) (sx_H K σ2 τ2)) : sx_G X K nL pc lv (.ref (K.2.2.1 16 n 0) :: st) (sx_H K σ τ) :=
  sx_callVi (Q := fun r σ _ => Q r σ) (As := []) hX (c_Ne_postsAlone hK n σ τ Q hn h) (hK 16 n 0 hn (by decide)) rfl rfl lk_362 lk_363 hy_Ne_postsAlone lk_360 lk_47 lk_361 ⟨rfl, rfl⟩ hR hst rfl hd hpc kk
def y_Pl_clear : MethodName := ⟨"SensorTree$Plan", "clear", "()V"⟩
theorem hy_Pl_clear : y_Pl_clear.cls ≠ "java/lang/invoke/MethodHandle" ∧ y_Pl_clear.cls ≠ "java/lang/invoke/VarHandle" ∧ (parseMethodDescriptor y_Pl_clear.desc).map (fun d => d.parameters.length) = some 0 := by decide +kernel
theorem d_Pl_clear_0 : decode prog_6_method_2_code 0 = .ok (.aload_n 0, 1) := by decide +kernel
theorem d_Pl_clear_1 : decode prog_6_method_2_code 1 = .ok (.iconst 0, 1) := by decide +kernel
theorem d_Pl_clear_2 : decode prog_6_method_2_code 2 = .ok (.putfield 9, 3) := by decide +kernel
theorem d_Pl_clear_5 : decode prog_6_method_2_code 5 = .ok (.aload_n 0, 1) := by decide +kernel
theorem d_Pl_clear_6 : decode prog_6_method_2_code 6 = .ok (.iconst 0, 1) := by decide +kernel
theorem d_Pl_clear_7 : decode prog_6_method_2_code 7 = .ok (.putfield 15, 3) := by decide +kernel
theorem d_Pl_clear_10 : decode prog_6_method_2_code 10 = .ok (.aload_n 0, 1) := by decide +kernel
theorem d_Pl_clear_11 : decode prog_6_method_2_code 11 = .ok (.iconst 0, 1) := by decide +kernel
theorem d_Pl_clear_12 : decode prog_6_method_2_code 12 = .ok (.putfield 39, 3) := by decide +kernel
theorem d_Pl_clear_15 : decode prog_6_method_2_code 15 = .ok (.iconst 0, 1) := by decide +kernel
theorem d_Pl_clear_16 : decode prog_6_method_2_code 16 = .ok (.istore_n 1, 1) := by decide +kernel
theorem d_Pl_clear_17 : decode prog_6_method_2_code 17 = .ok (.iload_n 1, 1) := by decide +kernel
theorem d_Pl_clear_18 : decode prog_6_method_2_code 18 = .ok (.getstatic 33, 3) := by decide +kernel
theorem d_Pl_clear_21 : decode prog_6_method_2_code 21 = .ok (.arraylength, 1) := by decide +kernel
theorem d_Pl_clear_22 : decode prog_6_method_2_code 22 = .ok (.if_icmp .ge 20, 3) := by decide +kernel
theorem d_Pl_clear_25 : decode prog_6_method_2_code 25 = .ok (.aload_n 0, 1) := by decide +kernel
theorem d_Pl_clear_26 : decode prog_6_method_2_code 26 = .ok (.getfield 36, 3) := by decide +kernel
theorem d_Pl_clear_29 : decode prog_6_method_2_code 29 = .ok (.iload_n 1, 1) := by decide +kernel
theorem d_Pl_clear_30 : decode prog_6_method_2_code 30 = .ok (.getstatic 33, 3) := by decide +kernel
theorem d_Pl_clear_33 : decode prog_6_method_2_code 33 = .ok (.iload_n 1, 1) := by decide +kernel
theorem d_Pl_clear_34 : decode prog_6_method_2_code 34 = .ok (.iaload, 1) := by decide +kernel
theorem d_Pl_clear_35 : decode prog_6_method_2_code 35 = .ok (.iastore, 1) := by decide +kernel
theorem d_Pl_clear_36 : decode prog_6_method_2_code 36 = .ok (.iinc 1 1, 3) := by decide +kernel
theorem d_Pl_clear_39 : decode prog_6_method_2_code 39 = .ok (.goto (-22), 3) := by decide +kernel
theorem d_Pl_clear_42 : decode prog_6_method_2_code 42 = .ok (.iconst 0, 1) := by decide +kernel
theorem d_Pl_clear_43 : decode prog_6_method_2_code 43 = .ok (.istore_n 1, 1) := by decide +kernel
theorem d_Pl_clear_44 : decode prog_6_method_2_code 44 = .ok (.iload_n 1, 1) := by decide +kernel
theorem d_Pl_clear_45 : decode prog_6_method_2_code 45 = .ok (.bipush 7, 2) := by decide +kernel
theorem d_Pl_clear_47 : decode prog_6_method_2_code 47 = .ok (.if_icmp .ge 32, 3) := by decide +kernel
theorem d_Pl_clear_50 : decode prog_6_method_2_code 50 = .ok (.iconst 0, 1) := by decide +kernel
theorem d_Pl_clear_51 : decode prog_6_method_2_code 51 = .ok (.istore_n 2, 1) := by decide +kernel
theorem d_Pl_clear_52 : decode prog_6_method_2_code 52 = .ok (.iload_n 2, 1) := by decide +kernel
theorem d_Pl_clear_53 : decode prog_6_method_2_code 53 = .ok (.bipush 7, 2) := by decide +kernel
theorem d_Pl_clear_55 : decode prog_6_method_2_code 55 = .ok (.if_icmp .ge 18, 3) := by decide +kernel
theorem d_Pl_clear_58 : decode prog_6_method_2_code 58 = .ok (.aload_n 0, 1) := by decide +kernel
theorem d_Pl_clear_59 : decode prog_6_method_2_code 59 = .ok (.getfield 30, 3) := by decide +kernel
theorem d_Pl_clear_62 : decode prog_6_method_2_code 62 = .ok (.iload_n 1, 1) := by decide +kernel
theorem d_Pl_clear_63 : decode prog_6_method_2_code 63 = .ok (.aaload, 1) := by decide +kernel
theorem d_Pl_clear_64 : decode prog_6_method_2_code 64 = .ok (.iload_n 2, 1) := by decide +kernel
theorem d_Pl_clear_65 : decode prog_6_method_2_code 65 = .ok (.iconst (-1), 1) := by decide +kernel
theorem d_Pl_clear_66 : decode prog_6_method_2_code 66 = .ok (.iastore, 1) := by decide +kernel
theorem d_Pl_clear_67 : decode prog_6_method_2_code 67 = .ok (.iinc 2 1, 3) := by decide +kernel
theorem d_Pl_clear_70 : decode prog_6_method_2_code 70 = .ok (.goto (-18), 3) := by decide +kernel
theorem d_Pl_clear_73 : decode prog_6_method_2_code 73 = .ok (.iinc 1 1, 3) := by decide +kernel
theorem d_Pl_clear_76 : decode prog_6_method_2_code 76 = .ok (.goto (-32), 3) := by decide +kernel
theorem d_Pl_clear_79 : decode prog_6_method_2_code 79 = .ok (.return_, 1) := by decide +kernel
def wp_Pl_clear_b52 (n : Nat) (k44 : Int32 → sx_M → Prop) (Q : sx_M → Prop) : Nat → Int32 → Int32 → sx_M → Prop
  | 0, _, _, _ => False
  | f + 1, v1, v2, σ => if 7 ≤ v2 then (k44 (v1 + 1) σ) else (vp_in v1 7 ∧ (vp_in v2 7 ∧ (∀ σ4 : sx_M, σ4 = sx_u σ 13 n v1.toNatClampNeg v2.toNatClampNeg (-1) → (wp_Pl_clear_b52 n k44 Q f v1 (v2 + 1) σ4))))
def wp_Pl_clear_b44 (n : Nat)  (Q : sx_M → Prop) : Nat → Int32 → sx_M → Prop
  | 0, _, _ => False
  | f + 1, v1, σ => if 7 ≤ v1 then (Q σ) else (∃ f52, wp_Pl_clear_b52 n (wp_Pl_clear_b44 n Q f) Q f52 v1 0 σ)
def wp_Pl_clear_b17 (n : Nat)  (Q : sx_M → Prop) : Nat → Int32 → sx_M → Prop
  | 0, _, _ => False
  | f + 1, v1, σ => if 9 ≤ v1 then (∃ f44, wp_Pl_clear_b44 n Q f44 0 σ) else (vp_in v1 9 ∧ (vp_in v1 9 ∧ (∀ σ9 : sx_M, σ9 = sx_u σ 14 n 0 v1.toNatClampNeg (kx_sta 0 v1.toNatClampNeg) → (wp_Pl_clear_b17 n Q f (v1 + 1) σ9))))
def wp_Pl_clear (n : Nat) (σ : sx_M) (Q : sx_M → Prop) : Prop := ∀ σ10 : sx_M, σ10 = sx_u σ 8 n 0 0 0 → (∀ σ11 : sx_M, σ11 = sx_u σ10 8 n 0 1 0 → (∀ σ12 : sx_M, σ12 = sx_u σ11 8 n 0 7 0 → (∃ f17, wp_Pl_clear_b17 n Q f17 0 σ12)))
abbrev rm_Pl_clear : Room := { frames := 0, cells := 0, slots := 0, locals := 0 }
set_option maxRecDepth 100000 in
set_option maxHeartbeats 4000000 in
theorem g_Pl_clear_b52 {l : Launch} {K : sx_K} {X : sx_T} {n : Nat} {k44 : Int32 → sx_M → Prop} {Q : sx_M → Prop} (hX : sx_C X K prog_6_method_2_code 3 "SensorTree$Plan" none rm_Pl_clear l) (hK : kx_C K) (hE : sx_E X K (sx_Qv K (fun σ _ => Q σ))) (hn : n < 2) (hk44 : ∀ (v1 : Int32) (σ : sx_M) (τ : sx_L) , k44 v1 σ → sx_G X K 3 44 [(0, .ref (K.2.2.1 8 n 0)), (1, .int v1)] [] (sx_H K σ τ)) : ∀ (f : Nat) (v1 : Int32) (v2 : Int32) (σ : sx_M) (τ : sx_L) , wp_Pl_clear_b52 n k44 Q f v1 v2 σ → sx_G X K 3 52 [(0, .ref (K.2.2.1 8 n 0)), (1, .int v1), (2, .int v2)] [] (sx_H K σ τ) := by
  intro f
  induction f with
  | zero => intro v1 v2 σ τ h; exact (show False from h).elim
  | succ f ih =>
    intro v1 v2 σ τ h
    rw [wp_Pl_clear_b52] at h
    refine sx_iload_n (pc2 := 53) hX 2 d_Pl_clear_52 rfl rfl rfl ?_
    refine sx_bipush (v := 7) (pc2 := 55) hX d_Pl_clear_53 (by decide) rfl ?_
    refine sx_icmp_ge (tgt := 73) (pc2 := 58) hX d_Pl_clear_55 (by decide) rfl (fun hc1 => ?_) (fun hc1 => ?_)
    · replace h := sx_t h hc1
      refine sx_iinc (pc2 := 76) hX 1 _ [(0, .ref (K.2.2.1 8 n 0)), (1, .int (v1 + 1)), (2, .int v2)] [1, 0, 2] d_Pl_clear_73 rfl (v1 + 1) rfl (by decide) rfl rfl rfl ?_
      refine sx_goto (tgt := 44) hX d_Pl_clear_76 (by decide) ?_
      refine sx_sub [(0, .ref (K.2.2.1 8 n 0)), (1, .int (v1 + 1))] [0, 1] rfl ?_
      exact hk44 (v1 + 1) _ _ h
    · replace h := sx_f h hc1
      refine sx_aload_n (pc2 := 59) hX 0 d_Pl_clear_58 rfl rfl rfl ?_
      refine fg_Pl_30 (pc2 := 62) hX (hK 8 n 0 hn (by decide)) d_Pl_clear_59 rfl ?_
      refine sx_iload_n (pc2 := 63) hX 1 d_Pl_clear_62 rfl rfl rfl ?_
      obtain ⟨hc2, h⟩ := h
      refine sx_aalA (a := K.2.2.1 13 n v1.toNatClampNeg) (pc2 := 64) hX (hK 12 n 0 hn (by decide)) rfl rfl hc2 d_Pl_clear_63 rfl ?_
      refine sx_iload_n (pc2 := 65) hX 2 d_Pl_clear_64 rfl rfl rfl ?_
      refine sx_iconst (v := (-1)) (pc2 := 66) hX d_Pl_clear_65 (by decide) rfl ?_
      obtain ⟨hc3, h⟩ := h
      refine sx_iast (pc2 := 67) hX (hK 13 n v1.toNatClampNeg hn (sx_lt hc2)) (fun _ => rfl) hc3 d_Pl_clear_66 rfl ?_
      refine sx_nm (fun σ4 e4 => ?_)
      replace h := h σ4 e4
      refine sx_iinc (pc2 := 70) hX 2 _ [(0, .ref (K.2.2.1 8 n 0)), (1, .int v1), (2, .int (v2 + 1))] [1, 2, 0] d_Pl_clear_67 rfl (v2 + 1) rfl (by decide) rfl rfl rfl ?_
      refine sx_goto (tgt := 52) hX d_Pl_clear_70 (by decide) ?_
      exact ih v1 (v2 + 1) _ _ h
set_option maxRecDepth 100000 in
set_option maxHeartbeats 4000000 in
theorem g_Pl_clear_b44 {l : Launch} {K : sx_K} {X : sx_T} {n : Nat}  {Q : sx_M → Prop} (hX : sx_C X K prog_6_method_2_code 3 "SensorTree$Plan" none rm_Pl_clear l) (hK : kx_C K) (hE : sx_E X K (sx_Qv K (fun σ _ => Q σ))) (hn : n < 2) : ∀ (f : Nat) (v1 : Int32) (σ : sx_M) (τ : sx_L) , wp_Pl_clear_b44 n Q f v1 σ → sx_G X K 3 44 [(0, .ref (K.2.2.1 8 n 0)), (1, .int v1)] [] (sx_H K σ τ) := by
  intro f
  induction f with
  | zero => intro v1 σ τ h; exact (show False from h).elim
  | succ f ih =>
    intro v1 σ τ h
    rw [wp_Pl_clear_b44] at h
    refine sx_iload_n (pc2 := 45) hX 1 d_Pl_clear_44 rfl rfl rfl ?_
    refine sx_bipush (v := 7) (pc2 := 47) hX d_Pl_clear_45 (by decide) rfl ?_
    refine sx_icmp_ge (tgt := 79) (pc2 := 50) hX d_Pl_clear_47 (by decide) rfl (fun hc5 => ?_) (fun hc5 => ?_)
    · replace h := sx_t h hc5
      exact sx_vret hX hE h d_Pl_clear_79
    · replace h := sx_f h hc5
      refine sx_iconst (v := 0) (pc2 := 51) hX d_Pl_clear_50 (by decide) rfl ?_
      refine sx_istore_n (pc2 := 52) hX _ [(0, .ref (K.2.2.1 8 n 0)), (1, .int v1), (2, .int 0)] [1, 2, 0] d_Pl_clear_51 rfl (by decide) rfl rfl rfl ?_
      obtain ⟨f52, h⟩ := h
      exact g_Pl_clear_b52 hX hK hE hn ih f52 v1 0 _ _ h
set_option maxRecDepth 100000 in
set_option maxHeartbeats 4000000 in
theorem g_Pl_clear_b17 {l : Launch} {K : sx_K} {X : sx_T} {n : Nat}  {Q : sx_M → Prop} (hX : sx_C X K prog_6_method_2_code 3 "SensorTree$Plan" none rm_Pl_clear l) (hK : kx_C K) (hE : sx_E X K (sx_Qv K (fun σ _ => Q σ))) (hn : n < 2) : ∀ (f : Nat) (v1 : Int32) (σ : sx_M) (τ : sx_L) , wp_Pl_clear_b17 n Q f v1 σ → sx_G X K 3 17 [(0, .ref (K.2.2.1 8 n 0)), (1, .int v1)] [] (sx_H K σ τ) := by
  intro f
  induction f with
  | zero => intro v1 σ τ h; exact (show False from h).elim
  | succ f ih =>
    intro v1 σ τ h
    rw [wp_Pl_clear_b17] at h
    refine sx_iload_n (pc2 := 18) hX 1 d_Pl_clear_17 rfl rfl rfl ?_
    refine sx_gets (pc2 := 21) hX hX.2.2.2.2.2.2.2.2.2.2.2.1.2.1.1 lk_8 d_Pl_clear_18 rfl ?_
    refine sx_stlen (v := 9) (pc2 := 22) hX hX.2.2.2.2.2.2.2.2.2.2.2.1.2.1.2 (by decide) d_Pl_clear_21 rfl ?_
    refine sx_icmp_ge (tgt := 42) (pc2 := 25) hX d_Pl_clear_22 (by decide) rfl (fun hc6 => ?_) (fun hc6 => ?_)
    · replace h := sx_t h hc6
      refine sx_iconst (v := 0) (pc2 := 43) hX d_Pl_clear_42 (by decide) rfl ?_
      refine sx_istore_n (pc2 := 44) hX _ [(0, .ref (K.2.2.1 8 n 0)), (1, .int 0)] [1, 0] d_Pl_clear_43 rfl (by decide) rfl rfl rfl ?_
      obtain ⟨f44, h⟩ := h
      exact g_Pl_clear_b44 hX hK hE hn  f44 0 _ _ h
    · replace h := sx_f h hc6
      refine sx_aload_n (pc2 := 26) hX 0 d_Pl_clear_25 rfl rfl rfl ?_
      refine fg_Pl_36 (pc2 := 29) hX (hK 8 n 0 hn (by decide)) d_Pl_clear_26 rfl ?_
      refine sx_iload_n (pc2 := 30) hX 1 d_Pl_clear_29 rfl rfl rfl ?_
      refine sx_gets (pc2 := 33) hX hX.2.2.2.2.2.2.2.2.2.2.2.1.2.1.1 lk_8 d_Pl_clear_30 rfl ?_
      refine sx_iload_n (pc2 := 34) hX 1 d_Pl_clear_33 rfl rfl rfl ?_
      obtain ⟨hc7, h⟩ := h
      refine sx_sti (pc2 := 35) hX hX.2.2.2.2.2.2.2.2.2.2.2.1.2.1.2 hc7 d_Pl_clear_34 rfl ?_
      obtain ⟨hc8, h⟩ := h
      refine sx_iast (pc2 := 36) hX (hK 14 n 0 hn (by decide)) (fun _ => rfl) hc8 d_Pl_clear_35 rfl ?_
      refine sx_nm (fun σ9 e9 => ?_)
      replace h := h σ9 e9
      refine sx_iinc (pc2 := 39) hX 1 _ [(0, .ref (K.2.2.1 8 n 0)), (1, .int (v1 + 1))] [1, 0] d_Pl_clear_36 rfl (v1 + 1) rfl (by decide) rfl rfl rfl ?_
      refine sx_goto (tgt := 17) hX d_Pl_clear_39 (by decide) ?_
      exact ih (v1 + 1) _ _ h
set_option maxRecDepth 100000 in
set_option maxHeartbeats 4000000 in
theorem c_Pl_clear {l : Launch} {K : sx_K} (hK : kx_C K) (n : Nat) (σ : sx_M) (τ : sx_L) (Q : sx_M → Prop) (hn : n < 2) (h : wp_Pl_clear n σ Q) : Met l y_Pl_clear (sx_wd y_Pl_clear prog_6_method_2_code 3 none) rm_Pl_clear (sx_Pc K [.ref (K.2.2.1 8 n 0)] σ τ) (sx_Qv K (fun σ _ => Q σ)) 0 0 (sx_A K) := by
  refine sx_met (by decide) (Nat.le_of_ble_eq_true rfl) (fun X hX hE => ?_)
  replace hX : sx_C X K prog_6_method_2_code 3 "SensorTree$Plan" none rm_Pl_clear l := hX
  show sx_G X K 3 0 [(0, .ref (K.2.2.1 8 n 0))] [] (sx_H K σ τ)
  unfold wp_Pl_clear at h
  refine sx_aload_n (pc2 := 1) hX 0 d_Pl_clear_0 rfl rfl rfl ?_
  refine sx_iconst (v := 0) (pc2 := 2) hX d_Pl_clear_1 (by decide) rfl ?_
  refine fp_Pl_9 (pc2 := 5) hX (hK 8 n 0 hn (by decide)) d_Pl_clear_2 rfl ?_
  refine sx_nm (fun σ10 e10 => ?_)
  replace h := h σ10 e10
  refine sx_aload_n (pc2 := 6) hX 0 d_Pl_clear_5 rfl rfl rfl ?_
  refine sx_iconst (v := 0) (pc2 := 7) hX d_Pl_clear_6 (by decide) rfl ?_
  refine fp_Pl_15 (pc2 := 10) hX (hK 8 n 0 hn (by decide)) d_Pl_clear_7 rfl ?_
  refine sx_nm (fun σ11 e11 => ?_)
  replace h := h σ11 e11
  refine sx_aload_n (pc2 := 11) hX 0 d_Pl_clear_10 rfl rfl rfl ?_
  refine sx_iconst (v := 0) (pc2 := 12) hX d_Pl_clear_11 (by decide) rfl ?_
  refine fp_Pl_39 (pc2 := 15) hX (by decide) (hK 8 n 0 hn (by decide)) d_Pl_clear_12 rfl ?_
  refine sx_nm (fun σ12 e12 => ?_)
  replace h := h σ12 e12
  refine sx_iconst (v := 0) (pc2 := 16) hX d_Pl_clear_15 (by decide) rfl ?_
  refine sx_istore_n (pc2 := 17) hX _ [(0, .ref (K.2.2.1 8 n 0)), (1, .int 0)] [1, 0] d_Pl_clear_16 rfl (by decide) rfl rfl rfl ?_
  obtain ⟨f17, h⟩ := h
  exact g_Pl_clear_b17 hX hK hE hn  f17 0 _ _ h
theorem cl_Re_44 {X : sx_T} {K : sx_K} {cc : ByteArray} {nL : Nat} {ret : Option FieldType} {rm : Room} {l : Launch} {pc pc2 : Nat} {lv : List (Nat × Value)} {st : List Value} {σ : sx_M} {τ : sx_L} {n : Nat} {Q : sx_M → Prop} (hX : sx_C X K cc nL "SensorTree$Reader" ret rm l) (hK : kx_C K) (h : wp_Pl_clear n σ Q) (hn : n < 2) (hR : rm_Pl_clear.frames + 1 ≤ rm.frames ∧ 8 + (3 + 11) + rm_Pl_clear.locals ≤ rm.locals) (hst : (st.map fun v => v.category).sum ≤ 8) (hd : decode cc pc = .ok (.invokevirtual 44, 3)) (hpc : pc + 3 = pc2) (kk : ∀ (σ2 : sx_M) (τ2 : sx_L), Q σ2 → sx_G X K nL pc2 lv (st) (sx_H K σ2 τ2)) : sx_G X K nL pc lv (.ref (K.2.2.1 8 n 0) :: st) (sx_H K σ τ) :=
  sx_callVv (Q := fun σ _ => Q σ) (As := []) hX (c_Pl_clear hK n σ τ Q hn h) (hK 8 n 0 hn (by decide)) rfl rfl lk_232 lk_233 hy_Pl_clear lk_230 lk_126 lk_231 ⟨rfl, rfl⟩ hR hst rfl hd hpc kk
def y_Pl_copyFrom : MethodName := ⟨"SensorTree$Plan", "copyFrom", "(LSensorTree$Plan;)V"⟩
theorem hy_Pl_copyFrom : y_Pl_copyFrom.cls ≠ "java/lang/invoke/MethodHandle" ∧ y_Pl_copyFrom.cls ≠ "java/lang/invoke/VarHandle" ∧ (parseMethodDescriptor y_Pl_copyFrom.desc).map (fun d => d.parameters.length) = some 1 := by decide +kernel
theorem d_Pl_copyFrom_0 : decode prog_6_method_3_code 0 = .ok (.aload_n 0, 1) := by decide +kernel
theorem d_Pl_copyFrom_1 : decode prog_6_method_3_code 1 = .ok (.aload_n 1, 1) := by decide +kernel
theorem d_Pl_copyFrom_2 : decode prog_6_method_3_code 2 = .ok (.getfield 9, 3) := by decide +kernel
theorem d_Pl_copyFrom_5 : decode prog_6_method_3_code 5 = .ok (.putfield 9, 3) := by decide +kernel
theorem d_Pl_copyFrom_8 : decode prog_6_method_3_code 8 = .ok (.aload_n 0, 1) := by decide +kernel
theorem d_Pl_copyFrom_9 : decode prog_6_method_3_code 9 = .ok (.aload_n 1, 1) := by decide +kernel
theorem d_Pl_copyFrom_10 : decode prog_6_method_3_code 10 = .ok (.getfield 15, 3) := by decide +kernel
theorem d_Pl_copyFrom_13 : decode prog_6_method_3_code 13 = .ok (.putfield 15, 3) := by decide +kernel
theorem d_Pl_copyFrom_16 : decode prog_6_method_3_code 16 = .ok (.aload_n 0, 1) := by decide +kernel
theorem d_Pl_copyFrom_17 : decode prog_6_method_3_code 17 = .ok (.aload_n 1, 1) := by decide +kernel
theorem d_Pl_copyFrom_18 : decode prog_6_method_3_code 18 = .ok (.getfield 39, 3) := by decide +kernel
theorem d_Pl_copyFrom_21 : decode prog_6_method_3_code 21 = .ok (.putfield 39, 3) := by decide +kernel
theorem d_Pl_copyFrom_24 : decode prog_6_method_3_code 24 = .ok (.aload_n 1, 1) := by decide +kernel
theorem d_Pl_copyFrom_25 : decode prog_6_method_3_code 25 = .ok (.getfield 18, 3) := by decide +kernel
theorem d_Pl_copyFrom_28 : decode prog_6_method_3_code 28 = .ok (.iconst 0, 1) := by decide +kernel
theorem d_Pl_copyFrom_29 : decode prog_6_method_3_code 29 = .ok (.aload_n 0, 1) := by decide +kernel
theorem d_Pl_copyFrom_30 : decode prog_6_method_3_code 30 = .ok (.getfield 18, 3) := by decide +kernel
theorem d_Pl_copyFrom_33 : decode prog_6_method_3_code 33 = .ok (.iconst 0, 1) := by decide +kernel
theorem d_Pl_copyFrom_34 : decode prog_6_method_3_code 34 = .ok (.bipush 16, 2) := by decide +kernel
theorem d_Pl_copyFrom_36 : decode prog_6_method_3_code 36 = .ok (.invokestatic 46, 3) := by decide +kernel
theorem d_Pl_copyFrom_39 : decode prog_6_method_3_code 39 = .ok (.aload_n 1, 1) := by decide +kernel
theorem d_Pl_copyFrom_40 : decode prog_6_method_3_code 40 = .ok (.getfield 22, 3) := by decide +kernel
theorem d_Pl_copyFrom_43 : decode prog_6_method_3_code 43 = .ok (.iconst 0, 1) := by decide +kernel
theorem d_Pl_copyFrom_44 : decode prog_6_method_3_code 44 = .ok (.aload_n 0, 1) := by decide +kernel
theorem d_Pl_copyFrom_45 : decode prog_6_method_3_code 45 = .ok (.getfield 22, 3) := by decide +kernel
theorem d_Pl_copyFrom_48 : decode prog_6_method_3_code 48 = .ok (.iconst 0, 1) := by decide +kernel
theorem d_Pl_copyFrom_49 : decode prog_6_method_3_code 49 = .ok (.bipush 16, 2) := by decide +kernel
theorem d_Pl_copyFrom_51 : decode prog_6_method_3_code 51 = .ok (.invokestatic 46, 3) := by decide +kernel
theorem d_Pl_copyFrom_54 : decode prog_6_method_3_code 54 = .ok (.aload_n 1, 1) := by decide +kernel
theorem d_Pl_copyFrom_55 : decode prog_6_method_3_code 55 = .ok (.getfield 25, 3) := by decide +kernel
theorem d_Pl_copyFrom_58 : decode prog_6_method_3_code 58 = .ok (.iconst 0, 1) := by decide +kernel
theorem d_Pl_copyFrom_59 : decode prog_6_method_3_code 59 = .ok (.aload_n 0, 1) := by decide +kernel
theorem d_Pl_copyFrom_60 : decode prog_6_method_3_code 60 = .ok (.getfield 25, 3) := by decide +kernel
theorem d_Pl_copyFrom_63 : decode prog_6_method_3_code 63 = .ok (.iconst 0, 1) := by decide +kernel
theorem d_Pl_copyFrom_64 : decode prog_6_method_3_code 64 = .ok (.bipush 16, 2) := by decide +kernel
theorem d_Pl_copyFrom_66 : decode prog_6_method_3_code 66 = .ok (.invokestatic 46, 3) := by decide +kernel
theorem d_Pl_copyFrom_69 : decode prog_6_method_3_code 69 = .ok (.aload_n 1, 1) := by decide +kernel
theorem d_Pl_copyFrom_70 : decode prog_6_method_3_code 70 = .ok (.getfield 36, 3) := by decide +kernel
theorem d_Pl_copyFrom_73 : decode prog_6_method_3_code 73 = .ok (.iconst 0, 1) := by decide +kernel
theorem d_Pl_copyFrom_74 : decode prog_6_method_3_code 74 = .ok (.aload_n 0, 1) := by decide +kernel
theorem d_Pl_copyFrom_75 : decode prog_6_method_3_code 75 = .ok (.getfield 36, 3) := by decide +kernel
theorem d_Pl_copyFrom_78 : decode prog_6_method_3_code 78 = .ok (.iconst 0, 1) := by decide +kernel
theorem d_Pl_copyFrom_79 : decode prog_6_method_3_code 79 = .ok (.getstatic 33, 3) := by decide +kernel
theorem d_Pl_copyFrom_82 : decode prog_6_method_3_code 82 = .ok (.arraylength, 1) := by decide +kernel
theorem d_Pl_copyFrom_83 : decode prog_6_method_3_code 83 = .ok (.invokestatic 46, 3) := by decide +kernel
theorem d_Pl_copyFrom_86 : decode prog_6_method_3_code 86 = .ok (.iconst 0, 1) := by decide +kernel
theorem d_Pl_copyFrom_87 : decode prog_6_method_3_code 87 = .ok (.istore_n 2, 1) := by decide +kernel
theorem d_Pl_copyFrom_88 : decode prog_6_method_3_code 88 = .ok (.iload_n 2, 1) := by decide +kernel
theorem d_Pl_copyFrom_89 : decode prog_6_method_3_code 89 = .ok (.bipush 7, 2) := by decide +kernel
theorem d_Pl_copyFrom_91 : decode prog_6_method_3_code 91 = .ok (.if_icmp .ge 28, 3) := by decide +kernel
theorem d_Pl_copyFrom_94 : decode prog_6_method_3_code 94 = .ok (.aload_n 1, 1) := by decide +kernel
theorem d_Pl_copyFrom_95 : decode prog_6_method_3_code 95 = .ok (.getfield 30, 3) := by decide +kernel
theorem d_Pl_copyFrom_98 : decode prog_6_method_3_code 98 = .ok (.iload_n 2, 1) := by decide +kernel
theorem d_Pl_copyFrom_99 : decode prog_6_method_3_code 99 = .ok (.aaload, 1) := by decide +kernel
theorem d_Pl_copyFrom_100 : decode prog_6_method_3_code 100 = .ok (.iconst 0, 1) := by decide +kernel
theorem d_Pl_copyFrom_101 : decode prog_6_method_3_code 101 = .ok (.aload_n 0, 1) := by decide +kernel
theorem d_Pl_copyFrom_102 : decode prog_6_method_3_code 102 = .ok (.getfield 30, 3) := by decide +kernel
theorem d_Pl_copyFrom_105 : decode prog_6_method_3_code 105 = .ok (.iload_n 2, 1) := by decide +kernel
theorem d_Pl_copyFrom_106 : decode prog_6_method_3_code 106 = .ok (.aaload, 1) := by decide +kernel
theorem d_Pl_copyFrom_107 : decode prog_6_method_3_code 107 = .ok (.iconst 0, 1) := by decide +kernel
theorem d_Pl_copyFrom_108 : decode prog_6_method_3_code 108 = .ok (.bipush 7, 2) := by decide +kernel
theorem d_Pl_copyFrom_110 : decode prog_6_method_3_code 110 = .ok (.invokestatic 46, 3) := by decide +kernel
theorem d_Pl_copyFrom_113 : decode prog_6_method_3_code 113 = .ok (.iinc 2 1, 3) := by decide +kernel
theorem d_Pl_copyFrom_116 : decode prog_6_method_3_code 116 = .ok (.goto (-28), 3) := by decide +kernel
theorem d_Pl_copyFrom_119 : decode prog_6_method_3_code 119 = .ok (.return_, 1) := by decide +kernel
def wp_Pl_copyFrom_b88 (n : Nat)  (Q : sx_M → Prop) : Nat → Nat → Int32 → sx_M → Prop
  | 0, _, _, _ => False
  | f + 1, v1n, v2, σ => if 7 ≤ v2 then (Q σ) else (vp_in v2 7 ∧ (vp_in v2 7 ∧ ((¬ (0 : Int32) < 0 ∧ ¬ (0 : Int32) < 0 ∧ ¬ (7 : Int32) < 0 ∧ (0 : Int32).toNatClampNeg + (7 : Int32).toNatClampNeg ≤ 7 ∧ (0 : Int32).toNatClampNeg + (7 : Int32).toNatClampNeg ≤ 7) ∧ (∀ σ5 : sx_M, σ5 = sx_r σ 13 n v2.toNatClampNeg (va_cpy (σ 13 v1n v2.toNatClampNeg) (σ 13 n v2.toNatClampNeg) (0 : Int32).toNatClampNeg (0 : Int32).toNatClampNeg (7 : Int32).toNatClampNeg) → (wp_Pl_copyFrom_b88 n Q f v1n (v2 + 1) σ5)))))
def wp_Pl_copyFrom (n : Nat) (n1 : Nat) (σ : sx_M) (Q : sx_M → Prop) : Prop := ∀ σ6 : sx_M, σ6 = sx_u σ 8 n 0 0 (σ 8 n1 0 0) → (∀ σ7 : sx_M, σ7 = sx_u σ6 8 n 0 1 (σ6 8 n1 0 1) → ((σ7 8 n1 0 7 = 0 ∨ σ7 8 n1 0 7 = 1) ∧ (∀ σ9 : sx_M, σ9 = sx_u σ7 8 n 0 7 (σ7 8 n1 0 7) → ((¬ (0 : Int32) < 0 ∧ ¬ (0 : Int32) < 0 ∧ ¬ (16 : Int32) < 0 ∧ (0 : Int32).toNatClampNeg + (16 : Int32).toNatClampNeg ≤ 16 ∧ (0 : Int32).toNatClampNeg + (16 : Int32).toNatClampNeg ≤ 16) ∧ (∀ σ11 : sx_M, σ11 = sx_r σ9 9 n 0 (va_cpy (σ9 9 n1 0) (σ9 9 n 0) (0 : Int32).toNatClampNeg (0 : Int32).toNatClampNeg (16 : Int32).toNatClampNeg) → ((¬ (0 : Int32) < 0 ∧ ¬ (0 : Int32) < 0 ∧ ¬ (16 : Int32) < 0 ∧ (0 : Int32).toNatClampNeg + (16 : Int32).toNatClampNeg ≤ 16 ∧ (0 : Int32).toNatClampNeg + (16 : Int32).toNatClampNeg ≤ 16) ∧ (∀ σ13 : sx_M, σ13 = sx_r σ11 10 n 0 (va_cpy (σ11 10 n1 0) (σ11 10 n 0) (0 : Int32).toNatClampNeg (0 : Int32).toNatClampNeg (16 : Int32).toNatClampNeg) → ((¬ (0 : Int32) < 0 ∧ ¬ (0 : Int32) < 0 ∧ ¬ (16 : Int32) < 0 ∧ (0 : Int32).toNatClampNeg + (16 : Int32).toNatClampNeg ≤ 16 ∧ (0 : Int32).toNatClampNeg + (16 : Int32).toNatClampNeg ≤ 16) ∧ (∀ σ15 : sx_M, σ15 = sx_r σ13 11 n 0 (va_cpy (σ13 11 n1 0) (σ13 11 n 0) (0 : Int32).toNatClampNeg (0 : Int32).toNatClampNeg (16 : Int32).toNatClampNeg) → ((¬ (0 : Int32) < 0 ∧ ¬ (0 : Int32) < 0 ∧ ¬ (9 : Int32) < 0 ∧ (0 : Int32).toNatClampNeg + (9 : Int32).toNatClampNeg ≤ 9 ∧ (0 : Int32).toNatClampNeg + (9 : Int32).toNatClampNeg ≤ 9) ∧ (∀ σ17 : sx_M, σ17 = sx_r σ15 14 n 0 (va_cpy (σ15 14 n1 0) (σ15 14 n 0) (0 : Int32).toNatClampNeg (0 : Int32).toNatClampNeg (9 : Int32).toNatClampNeg) → (∃ f88, wp_Pl_copyFrom_b88 n Q f88 n1 0 σ17))))))))))))
abbrev rm_Pl_copyFrom : Room := { frames := 1, cells := 0, slots := 0, locals := 18 }
set_option maxRecDepth 100000 in
set_option maxHeartbeats 4000000 in
theorem g_Pl_copyFrom_b88 {l : Launch} {K : sx_K} {X : sx_T} {n : Nat}  {Q : sx_M → Prop} (hX : sx_C X K prog_6_method_3_code 3 "SensorTree$Plan" none rm_Pl_copyFrom l) (hK : kx_C K) (hE : sx_E X K (sx_Qv K (fun σ _ => Q σ))) (hn : n < 2) : ∀ (f : Nat) (v1n : Nat) (v2 : Int32) (σ : sx_M) (τ : sx_L) (hv1n : v1n < 2), wp_Pl_copyFrom_b88 n Q f v1n v2 σ → sx_G X K 3 88 [(0, .ref (K.2.2.1 8 n 0)), (1, .ref (K.2.2.1 8 v1n 0)), (2, .int v2)] [] (sx_H K σ τ) := by
  intro f
  induction f with
  | zero => intro v1n v2 σ τ hv1n h; exact (show False from h).elim
  | succ f ih =>
    intro v1n v2 σ τ hv1n h
    rw [wp_Pl_copyFrom_b88] at h
    refine sx_iload_n (pc2 := 89) hX 2 d_Pl_copyFrom_88 rfl rfl rfl ?_
    refine sx_bipush (v := 7) (pc2 := 91) hX d_Pl_copyFrom_89 (by decide) rfl ?_
    refine sx_icmp_ge (tgt := 119) (pc2 := 94) hX d_Pl_copyFrom_91 (by decide) rfl (fun hc1 => ?_) (fun hc1 => ?_)
    · replace h := sx_t h hc1
      exact sx_vret hX hE h d_Pl_copyFrom_119
    · replace h := sx_f h hc1
      refine sx_aload_n (pc2 := 95) hX 1 d_Pl_copyFrom_94 rfl rfl rfl ?_
      refine fg_Pl_30 (pc2 := 98) hX (hK 8 v1n 0 hv1n (by decide)) d_Pl_copyFrom_95 rfl ?_
      refine sx_iload_n (pc2 := 99) hX 2 d_Pl_copyFrom_98 rfl rfl rfl ?_
      obtain ⟨hc2, h⟩ := h
      refine sx_aalA (a := K.2.2.1 13 v1n v2.toNatClampNeg) (pc2 := 100) hX (hK 12 v1n 0 hv1n (by decide)) rfl rfl hc2 d_Pl_copyFrom_99 rfl ?_
      refine sx_iconst (v := 0) (pc2 := 101) hX d_Pl_copyFrom_100 (by decide) rfl ?_
      refine sx_aload_n (pc2 := 102) hX 0 d_Pl_copyFrom_101 rfl rfl rfl ?_
      refine fg_Pl_30 (pc2 := 105) hX (hK 8 n 0 hn (by decide)) d_Pl_copyFrom_102 rfl ?_
      refine sx_iload_n (pc2 := 106) hX 2 d_Pl_copyFrom_105 rfl rfl rfl ?_
      obtain ⟨hc3, h⟩ := h
      refine sx_aalA (a := K.2.2.1 13 n v2.toNatClampNeg) (pc2 := 107) hX (hK 12 n 0 hn (by decide)) rfl rfl hc3 d_Pl_copyFrom_106 rfl ?_
      refine sx_iconst (v := 0) (pc2 := 108) hX d_Pl_copyFrom_107 (by decide) rfl ?_
      refine sx_bipush (v := 7) (pc2 := 110) hX d_Pl_copyFrom_108 (by decide) rfl ?_
      obtain ⟨hc4, h⟩ := h
      refine sx_copy (pc2 := 113) hX (hK 13 v1n v2.toNatClampNeg hv1n (sx_lt hc2)) (hK 13 n v2.toNatClampNeg hn (sx_lt hc3)) rfl (fun _ => rfl) lk_9 kx_cpy.1 kx_cpy.2.1 kx_cpy.2.2 hc4.1 hc4.2.1 hc4.2.2.1 hc4.2.2.2.1 hc4.2.2.2.2 (by decide) d_Pl_copyFrom_110 rfl ?_
      refine sx_nm (fun σ5 e5 => ?_)
      replace h := h σ5 e5
      refine sx_iinc (pc2 := 116) hX 2 _ [(0, .ref (K.2.2.1 8 n 0)), (1, .ref (K.2.2.1 8 v1n 0)), (2, .int (v2 + 1))] [1, 2, 0] d_Pl_copyFrom_113 rfl (v2 + 1) rfl (by decide) rfl rfl rfl ?_
      refine sx_goto (tgt := 88) hX d_Pl_copyFrom_116 (by decide) ?_
      exact ih v1n (v2 + 1) _ _ hv1n h
set_option maxRecDepth 100000 in
set_option maxHeartbeats 4000000 in
theorem c_Pl_copyFrom {l : Launch} {K : sx_K} (hK : kx_C K) (n : Nat) (n1 : Nat) (σ : sx_M) (τ : sx_L) (Q : sx_M → Prop) (hn : n < 2) (hn1 : n1 < 2) (h : wp_Pl_copyFrom n n1 σ Q) : Met l y_Pl_copyFrom (sx_wd y_Pl_copyFrom prog_6_method_3_code 3 none) rm_Pl_copyFrom (sx_Pc K [.ref (K.2.2.1 8 n 0), .ref (K.2.2.1 8 n1 0)] σ τ) (sx_Qv K (fun σ _ => Q σ)) 0 0 (sx_A K) := by
  refine sx_met (by decide) (Nat.le_of_ble_eq_true rfl) (fun X hX hE => ?_)
  replace hX : sx_C X K prog_6_method_3_code 3 "SensorTree$Plan" none rm_Pl_copyFrom l := hX
  show sx_G X K 3 0 [(0, .ref (K.2.2.1 8 n 0)), (1, .ref (K.2.2.1 8 n1 0))] [] (sx_H K σ τ)
  unfold wp_Pl_copyFrom at h
  refine sx_aload_n (pc2 := 1) hX 0 d_Pl_copyFrom_0 rfl rfl rfl ?_
  refine sx_aload_n (pc2 := 2) hX 1 d_Pl_copyFrom_1 rfl rfl rfl ?_
  refine fg_Pl_9 (pc2 := 5) hX (hK 8 n1 0 hn1 (by decide)) d_Pl_copyFrom_2 rfl ?_
  refine fp_Pl_9 (pc2 := 8) hX (hK 8 n 0 hn (by decide)) d_Pl_copyFrom_5 rfl ?_
  refine sx_nm (fun σ6 e6 => ?_)
  replace h := h σ6 e6
  refine sx_aload_n (pc2 := 9) hX 0 d_Pl_copyFrom_8 rfl rfl rfl ?_
  refine sx_aload_n (pc2 := 10) hX 1 d_Pl_copyFrom_9 rfl rfl rfl ?_
  refine fg_Pl_15 (pc2 := 13) hX (hK 8 n1 0 hn1 (by decide)) d_Pl_copyFrom_10 rfl ?_
  refine fp_Pl_15 (pc2 := 16) hX (hK 8 n 0 hn (by decide)) d_Pl_copyFrom_13 rfl ?_
  refine sx_nm (fun σ7 e7 => ?_)
  replace h := h σ7 e7
  refine sx_aload_n (pc2 := 17) hX 0 d_Pl_copyFrom_16 rfl rfl rfl ?_
  refine sx_aload_n (pc2 := 18) hX 1 d_Pl_copyFrom_17 rfl rfl rfl ?_
  refine fg_Pl_39 (pc2 := 21) hX (hK 8 n1 0 hn1 (by decide)) d_Pl_copyFrom_18 rfl ?_
  obtain ⟨hc8, h⟩ := h
  refine fp_Pl_39 (pc2 := 24) hX hc8 (hK 8 n 0 hn (by decide)) d_Pl_copyFrom_21 rfl ?_
  refine sx_nm (fun σ9 e9 => ?_)
  replace h := h σ9 e9
  refine sx_aload_n (pc2 := 25) hX 1 d_Pl_copyFrom_24 rfl rfl rfl ?_
  refine fg_Pl_18 (pc2 := 28) hX (hK 8 n1 0 hn1 (by decide)) d_Pl_copyFrom_25 rfl ?_
  refine sx_iconst (v := 0) (pc2 := 29) hX d_Pl_copyFrom_28 (by decide) rfl ?_
  refine sx_aload_n (pc2 := 30) hX 0 d_Pl_copyFrom_29 rfl rfl rfl ?_
  refine fg_Pl_18 (pc2 := 33) hX (hK 8 n 0 hn (by decide)) d_Pl_copyFrom_30 rfl ?_
  refine sx_iconst (v := 0) (pc2 := 34) hX d_Pl_copyFrom_33 (by decide) rfl ?_
  refine sx_bipush (v := 16) (pc2 := 36) hX d_Pl_copyFrom_34 (by decide) rfl ?_
  obtain ⟨hc10, h⟩ := h
  refine sx_copy (pc2 := 39) hX (hK 9 n1 0 hn1 (by decide)) (hK 9 n 0 hn (by decide)) rfl (fun _ => rfl) lk_9 kx_cpy.1 kx_cpy.2.1 kx_cpy.2.2 hc10.1 hc10.2.1 hc10.2.2.1 hc10.2.2.2.1 hc10.2.2.2.2 (by decide) d_Pl_copyFrom_36 rfl ?_
  refine sx_nm (fun σ11 e11 => ?_)
  replace h := h σ11 e11
  refine sx_aload_n (pc2 := 40) hX 1 d_Pl_copyFrom_39 rfl rfl rfl ?_
  refine fg_Pl_22 (pc2 := 43) hX (hK 8 n1 0 hn1 (by decide)) d_Pl_copyFrom_40 rfl ?_
  refine sx_iconst (v := 0) (pc2 := 44) hX d_Pl_copyFrom_43 (by decide) rfl ?_
  refine sx_aload_n (pc2 := 45) hX 0 d_Pl_copyFrom_44 rfl rfl rfl ?_
  refine fg_Pl_22 (pc2 := 48) hX (hK 8 n 0 hn (by decide)) d_Pl_copyFrom_45 rfl ?_
  refine sx_iconst (v := 0) (pc2 := 49) hX d_Pl_copyFrom_48 (by decide) rfl ?_
  refine sx_bipush (v := 16) (pc2 := 51) hX d_Pl_copyFrom_49 (by decide) rfl ?_
  obtain ⟨hc12, h⟩ := h
  refine sx_copy (pc2 := 54) hX (hK 10 n1 0 hn1 (by decide)) (hK 10 n 0 hn (by decide)) rfl (fun _ => rfl) lk_9 kx_cpy.1 kx_cpy.2.1 kx_cpy.2.2 hc12.1 hc12.2.1 hc12.2.2.1 hc12.2.2.2.1 hc12.2.2.2.2 (by decide) d_Pl_copyFrom_51 rfl ?_
  refine sx_nm (fun σ13 e13 => ?_)
  replace h := h σ13 e13
  refine sx_aload_n (pc2 := 55) hX 1 d_Pl_copyFrom_54 rfl rfl rfl ?_
  refine fg_Pl_25 (pc2 := 58) hX (hK 8 n1 0 hn1 (by decide)) d_Pl_copyFrom_55 rfl ?_
  refine sx_iconst (v := 0) (pc2 := 59) hX d_Pl_copyFrom_58 (by decide) rfl ?_
  refine sx_aload_n (pc2 := 60) hX 0 d_Pl_copyFrom_59 rfl rfl rfl ?_
  refine fg_Pl_25 (pc2 := 63) hX (hK 8 n 0 hn (by decide)) d_Pl_copyFrom_60 rfl ?_
  refine sx_iconst (v := 0) (pc2 := 64) hX d_Pl_copyFrom_63 (by decide) rfl ?_
  refine sx_bipush (v := 16) (pc2 := 66) hX d_Pl_copyFrom_64 (by decide) rfl ?_
  obtain ⟨hc14, h⟩ := h
  refine sx_copy (pc2 := 69) hX (hK 11 n1 0 hn1 (by decide)) (hK 11 n 0 hn (by decide)) rfl (fun _ => rfl) lk_9 kx_cpy.1 kx_cpy.2.1 kx_cpy.2.2 hc14.1 hc14.2.1 hc14.2.2.1 hc14.2.2.2.1 hc14.2.2.2.2 (by decide) d_Pl_copyFrom_66 rfl ?_
  refine sx_nm (fun σ15 e15 => ?_)
  replace h := h σ15 e15
  refine sx_aload_n (pc2 := 70) hX 1 d_Pl_copyFrom_69 rfl rfl rfl ?_
  refine fg_Pl_36 (pc2 := 73) hX (hK 8 n1 0 hn1 (by decide)) d_Pl_copyFrom_70 rfl ?_
  refine sx_iconst (v := 0) (pc2 := 74) hX d_Pl_copyFrom_73 (by decide) rfl ?_
  refine sx_aload_n (pc2 := 75) hX 0 d_Pl_copyFrom_74 rfl rfl rfl ?_
  refine fg_Pl_36 (pc2 := 78) hX (hK 8 n 0 hn (by decide)) d_Pl_copyFrom_75 rfl ?_
  refine sx_iconst (v := 0) (pc2 := 79) hX d_Pl_copyFrom_78 (by decide) rfl ?_
  refine sx_gets (pc2 := 82) hX hX.2.2.2.2.2.2.2.2.2.2.2.1.2.1.1 lk_8 d_Pl_copyFrom_79 rfl ?_
  refine sx_stlen (v := 9) (pc2 := 83) hX hX.2.2.2.2.2.2.2.2.2.2.2.1.2.1.2 (by decide) d_Pl_copyFrom_82 rfl ?_
  obtain ⟨hc16, h⟩ := h
  refine sx_copy (pc2 := 86) hX (hK 14 n1 0 hn1 (by decide)) (hK 14 n 0 hn (by decide)) rfl (fun _ => rfl) lk_9 kx_cpy.1 kx_cpy.2.1 kx_cpy.2.2 hc16.1 hc16.2.1 hc16.2.2.1 hc16.2.2.2.1 hc16.2.2.2.2 (by decide) d_Pl_copyFrom_83 rfl ?_
  refine sx_nm (fun σ17 e17 => ?_)
  replace h := h σ17 e17
  refine sx_iconst (v := 0) (pc2 := 87) hX d_Pl_copyFrom_86 (by decide) rfl ?_
  refine sx_istore_n (pc2 := 88) hX _ [(0, .ref (K.2.2.1 8 n 0)), (1, .ref (K.2.2.1 8 n1 0)), (2, .int 0)] [1, 2, 0] d_Pl_copyFrom_87 rfl (by decide) rfl rfl rfl ?_
  obtain ⟨f88, h⟩ := h
  exact g_Pl_copyFrom_b88 hX hK hE hn  f88 n1 0 _ _ hn1 h
theorem cl_St_106 {X : sx_T} {K : sx_K} {cc : ByteArray} {nL : Nat} {ret : Option FieldType} {rm : Room} {l : Launch} {pc pc2 : Nat} {lv : List (Nat × Value)} {st : List Value} {σ : sx_M} {τ : sx_L} {n : Nat} {n1 : Nat} {Q : sx_M → Prop} (hX : sx_C X K cc nL "SensorTree" ret rm l) (hK : kx_C K) (h : wp_Pl_copyFrom n n1 σ Q) (hn : n < 2) (hn1 : n1 < 2) (hR : rm_Pl_copyFrom.frames + 1 ≤ rm.frames ∧ 8 + (3 + 11) + rm_Pl_copyFrom.locals ≤ rm.locals) (hst : (st.map fun v => v.category).sum ≤ 8) (hd : decode cc pc = .ok (.invokevirtual 106, 3)) (hpc : pc + 3 = pc2) (kk : ∀ (σ2 : sx_M) (τ2 : sx_L), Q σ2 → sx_G X K nL pc2 lv (st) (sx_H K σ2 τ2)) : sx_G X K nL pc lv (.ref (K.2.2.1 8 n1 0) :: .ref (K.2.2.1 8 n 0) :: st) (sx_H K σ τ) :=
  sx_callVv (Q := fun σ _ => Q σ) (As := [.ref (K.2.2.1 8 n1 0)]) hX (c_Pl_copyFrom hK n n1 σ τ Q hn hn1 h) (hK 8 n 0 hn (by decide)) rfl rfl lk_254 lk_255 hy_Pl_copyFrom lk_252 lk_126 lk_253 ⟨rfl, rfl⟩ hR hst rfl hd hpc kk
def y_Pl_isLink : MethodName := ⟨"SensorTree$Plan", "isLink", "(I)Z"⟩
theorem hy_Pl_isLink : y_Pl_isLink.cls ≠ "java/lang/invoke/MethodHandle" ∧ y_Pl_isLink.cls ≠ "java/lang/invoke/VarHandle" ∧ (parseMethodDescriptor y_Pl_isLink.desc).map (fun d => d.parameters.length) = some 1 := by decide +kernel
theorem d_Pl_isLink_0 : decode prog_6_method_5_code 0 = .ok (.iload_n 1, 1) := by decide +kernel
theorem d_Pl_isLink_1 : decode prog_6_method_5_code 1 = .ok (.ifCond .lt 15, 3) := by decide +kernel
theorem d_Pl_isLink_4 : decode prog_6_method_5_code 4 = .ok (.iload_n 1, 1) := by decide +kernel
theorem d_Pl_isLink_5 : decode prog_6_method_5_code 5 = .ok (.aload_n 0, 1) := by decide +kernel
theorem d_Pl_isLink_6 : decode prog_6_method_5_code 6 = .ok (.getfield 15, 3) := by decide +kernel
theorem d_Pl_isLink_9 : decode prog_6_method_5_code 9 = .ok (.if_icmp .ge 7, 3) := by decide +kernel
theorem d_Pl_isLink_12 : decode prog_6_method_5_code 12 = .ok (.iconst 1, 1) := by decide +kernel
theorem d_Pl_isLink_13 : decode prog_6_method_5_code 13 = .ok (.goto 4, 3) := by decide +kernel
theorem d_Pl_isLink_16 : decode prog_6_method_5_code 16 = .ok (.iconst 0, 1) := by decide +kernel
theorem d_Pl_isLink_17 : decode prog_6_method_5_code 17 = .ok (.ireturn, 1) := by decide +kernel
def wp_Pl_isLink_b17 (n : Nat)  (Q : Int32 → sx_M → Prop) (w0 : Int32) (σ : sx_M) : Prop := (w0 = 0 ∨ w0 = 1) ∧ (Q w0 σ)
def wp_Pl_isLink_b16 (n : Nat)  (Q : Int32 → sx_M → Prop)  (σ : sx_M) : Prop := wp_Pl_isLink_b17 n Q 0 σ
def wp_Pl_isLink (n : Nat) (x1 : Int32) (σ : sx_M) (Q : Int32 → sx_M → Prop) : Prop := if x1 < 0 then (wp_Pl_isLink_b16 n Q σ) else (if σ 8 n 0 1 ≤ x1 then (wp_Pl_isLink_b16 n Q σ) else (wp_Pl_isLink_b17 n Q 1 σ))
abbrev rm_Pl_isLink : Room := { frames := 0, cells := 0, slots := 0, locals := 0 }
set_option maxRecDepth 100000 in
set_option maxHeartbeats 4000000 in
theorem g_Pl_isLink_b17 {l : Launch} {K : sx_K} {X : sx_T} {n : Nat}  {Q : Int32 → sx_M → Prop} (hX : sx_C X K prog_6_method_5_code 2 "SensorTree$Plan" (some .boolean) rm_Pl_isLink l) (hK : kx_C K) (hE : sx_E X K (sx_Qi K (fun r σ _ => Q r σ))) (hn : n < 2) (w0 : Int32) (σ : sx_M) (τ : sx_L)  (h : wp_Pl_isLink_b17 n Q  w0 σ) : sx_G X K 2 17 [] [.int w0] (sx_H K σ τ) := by
  unfold wp_Pl_isLink_b17 at h
  obtain ⟨hc1, h⟩ := h
  exact sx_zret hX hE hc1 h d_Pl_isLink_17
set_option maxRecDepth 100000 in
set_option maxHeartbeats 4000000 in
theorem g_Pl_isLink_b16 {l : Launch} {K : sx_K} {X : sx_T} {n : Nat}  {Q : Int32 → sx_M → Prop} (hX : sx_C X K prog_6_method_5_code 2 "SensorTree$Plan" (some .boolean) rm_Pl_isLink l) (hK : kx_C K) (hE : sx_E X K (sx_Qi K (fun r σ _ => Q r σ))) (hn : n < 2)  (σ : sx_M) (τ : sx_L)  (h : wp_Pl_isLink_b16 n Q  σ) : sx_G X K 2 16 [] [] (sx_H K σ τ) := by
  unfold wp_Pl_isLink_b16 at h
  refine sx_iconst (v := 0) (pc2 := 17) hX d_Pl_isLink_16 (by decide) rfl ?_
  exact g_Pl_isLink_b17 hX hK hE hn  0 _ _ h
set_option maxRecDepth 100000 in
set_option maxHeartbeats 4000000 in
theorem c_Pl_isLink {l : Launch} {K : sx_K} (hK : kx_C K) (n : Nat) (x1 : Int32) (σ : sx_M) (τ : sx_L) (Q : Int32 → sx_M → Prop) (hn : n < 2) (h : wp_Pl_isLink n x1 σ Q) : Met l y_Pl_isLink (sx_wd y_Pl_isLink prog_6_method_5_code 2 (some .boolean)) rm_Pl_isLink (sx_Pc K [.ref (K.2.2.1 8 n 0), .int x1] σ τ) (sx_Qi K (fun r σ _ => Q r σ)) 0 0 (sx_A K) := by
  refine sx_met (by decide) (Nat.le_of_ble_eq_true rfl) (fun X hX hE => ?_)
  replace hX : sx_C X K prog_6_method_5_code 2 "SensorTree$Plan" (some .boolean) rm_Pl_isLink l := hX
  show sx_G X K 2 0 [(0, .ref (K.2.2.1 8 n 0)), (1, .int x1)] [] (sx_H K σ τ)
  unfold wp_Pl_isLink at h
  refine sx_iload_n (pc2 := 1) hX 1 d_Pl_isLink_0 rfl rfl rfl ?_
  refine sx_if_lt (tgt := 16) (pc2 := 4) hX d_Pl_isLink_1 (by decide) rfl (fun hc2 => ?_) (fun hc2 => ?_)
  · replace h := sx_t h hc2
    refine sx_sub [] [] rfl ?_
    exact g_Pl_isLink_b16 hX hK hE hn  _ _ h
  · replace h := sx_f h hc2
    refine sx_iload_n (pc2 := 5) hX 1 d_Pl_isLink_4 rfl rfl rfl ?_
    refine sx_aload_n (pc2 := 6) hX 0 d_Pl_isLink_5 rfl rfl rfl ?_
    refine fg_Pl_15 (pc2 := 9) hX (hK 8 n 0 hn (by decide)) d_Pl_isLink_6 rfl ?_
    refine sx_icmp_ge (tgt := 16) (pc2 := 12) hX d_Pl_isLink_9 (by decide) rfl (fun hc3 => ?_) (fun hc3 => ?_)
    · replace h := sx_t h hc3
      refine sx_sub [] [] rfl ?_
      exact g_Pl_isLink_b16 hX hK hE hn  _ _ h
    · replace h := sx_f h hc3
      refine sx_iconst (v := 1) (pc2 := 13) hX d_Pl_isLink_12 (by decide) rfl ?_
      refine sx_goto (tgt := 17) hX d_Pl_isLink_13 (by decide) ?_
      refine sx_sub [] [] rfl ?_
      exact g_Pl_isLink_b17 hX hK hE hn  1 _ _ h
theorem cl_St_128 {X : sx_T} {K : sx_K} {cc : ByteArray} {nL : Nat} {ret : Option FieldType} {rm : Room} {l : Launch} {pc pc2 : Nat} {lv : List (Nat × Value)} {st : List Value} {σ : sx_M} {τ : sx_L} {n : Nat} {x1 : Int32} {Q : Int32 → sx_M → Prop} (hX : sx_C X K cc nL "SensorTree" ret rm l) (hK : kx_C K) (h : wp_Pl_isLink n x1 σ Q) (hn : n < 2) (hR : rm_Pl_isLink.frames + 1 ≤ rm.frames ∧ 8 + (2 + 11) + rm_Pl_isLink.locals ≤ rm.locals) (hst : (st.map fun v => v.category).sum ≤ 8) (hd : decode cc pc = .ok (.invokevirtual 128, 3)) (hpc : pc + 3 = pc2) (kk : ∀ (r : Int32) (σ2 : sx_M) (τ2 : sx_L), Q r σ2 → sx_G X K nL pc2 lv (.int r :: st) (sx_H K σ2 τ2)) : sx_G X K nL pc lv (.int x1 :: .ref (K.2.2.1 8 n 0) :: st) (sx_H K σ τ) :=
  sx_callVi (Q := fun r σ _ => Q r σ) (As := [.int x1]) hX (c_Pl_isLink hK n x1 σ τ Q hn h) (hK 8 n 0 hn (by decide)) rfl rfl lk_284 lk_285 hy_Pl_isLink lk_282 lk_126 lk_283 ⟨rfl, rfl⟩ hR hst rfl hd hpc kk
def y_Pl_setNumber : MethodName := ⟨"SensorTree$Plan", "setNumber", "(II)Z"⟩
theorem hy_Pl_setNumber : y_Pl_setNumber.cls ≠ "java/lang/invoke/MethodHandle" ∧ y_Pl_setNumber.cls ≠ "java/lang/invoke/VarHandle" ∧ (parseMethodDescriptor y_Pl_setNumber.desc).map (fun d => d.parameters.length) = some 2 := by decide +kernel
theorem d_Pl_setNumber_0 : decode prog_6_method_6_code 0 = .ok (.iload_n 1, 1) := by decide +kernel
theorem d_Pl_setNumber_1 : decode prog_6_method_6_code 1 = .ok (.iconst 2, 1) := by decide +kernel
theorem d_Pl_setNumber_2 : decode prog_6_method_6_code 2 = .ok (.isub, 1) := by decide +kernel
theorem d_Pl_setNumber_3 : decode prog_6_method_6_code 3 = .ok (.istore_n 3, 1) := by decide +kernel
theorem d_Pl_setNumber_4 : decode prog_6_method_6_code 4 = .ok (.iload_n 3, 1) := by decide +kernel
theorem d_Pl_setNumber_5 : decode prog_6_method_6_code 5 = .ok (.ifCond .lt 29, 3) := by decide +kernel
theorem d_Pl_setNumber_8 : decode prog_6_method_6_code 8 = .ok (.iload_n 3, 1) := by decide +kernel
theorem d_Pl_setNumber_9 : decode prog_6_method_6_code 9 = .ok (.getstatic 33, 3) := by decide +kernel
theorem d_Pl_setNumber_12 : decode prog_6_method_6_code 12 = .ok (.arraylength, 1) := by decide +kernel
theorem d_Pl_setNumber_13 : decode prog_6_method_6_code 13 = .ok (.if_icmp .ge 21, 3) := by decide +kernel
theorem d_Pl_setNumber_16 : decode prog_6_method_6_code 16 = .ok (.iload_n 2, 1) := by decide +kernel
theorem d_Pl_setNumber_17 : decode prog_6_method_6_code 17 = .ok (.getstatic 54, 3) := by decide +kernel
theorem d_Pl_setNumber_20 : decode prog_6_method_6_code 20 = .ok (.iload_n 3, 1) := by decide +kernel
theorem d_Pl_setNumber_21 : decode prog_6_method_6_code 21 = .ok (.iaload, 1) := by decide +kernel
theorem d_Pl_setNumber_22 : decode prog_6_method_6_code 22 = .ok (.if_icmp .lt 12, 3) := by decide +kernel
theorem d_Pl_setNumber_25 : decode prog_6_method_6_code 25 = .ok (.iload_n 2, 1) := by decide +kernel
theorem d_Pl_setNumber_26 : decode prog_6_method_6_code 26 = .ok (.getstatic 57, 3) := by decide +kernel
theorem d_Pl_setNumber_29 : decode prog_6_method_6_code 29 = .ok (.iload_n 3, 1) := by decide +kernel
theorem d_Pl_setNumber_30 : decode prog_6_method_6_code 30 = .ok (.iaload, 1) := by decide +kernel
theorem d_Pl_setNumber_31 : decode prog_6_method_6_code 31 = .ok (.if_icmp .le 5, 3) := by decide +kernel
theorem d_Pl_setNumber_34 : decode prog_6_method_6_code 34 = .ok (.iconst 0, 1) := by decide +kernel
theorem d_Pl_setNumber_35 : decode prog_6_method_6_code 35 = .ok (.ireturn, 1) := by decide +kernel
theorem d_Pl_setNumber_36 : decode prog_6_method_6_code 36 = .ok (.aload_n 0, 1) := by decide +kernel
theorem d_Pl_setNumber_37 : decode prog_6_method_6_code 37 = .ok (.getfield 36, 3) := by decide +kernel
theorem d_Pl_setNumber_40 : decode prog_6_method_6_code 40 = .ok (.iload_n 3, 1) := by decide +kernel
theorem d_Pl_setNumber_41 : decode prog_6_method_6_code 41 = .ok (.iload_n 3, 1) := by decide +kernel
theorem d_Pl_setNumber_42 : decode prog_6_method_6_code 42 = .ok (.ifCond .ne 11, 3) := by decide +kernel
theorem d_Pl_setNumber_45 : decode prog_6_method_6_code 45 = .ok (.iload_n 2, 1) := by decide +kernel
theorem d_Pl_setNumber_46 : decode prog_6_method_6_code 46 = .ok (.iload_n 2, 1) := by decide +kernel
theorem d_Pl_setNumber_47 : decode prog_6_method_6_code 47 = .ok (.iconst 2, 1) := by decide +kernel
theorem d_Pl_setNumber_48 : decode prog_6_method_6_code 48 = .ok (.irem, 1) := by decide +kernel
theorem d_Pl_setNumber_49 : decode prog_6_method_6_code 49 = .ok (.isub, 1) := by decide +kernel
theorem d_Pl_setNumber_50 : decode prog_6_method_6_code 50 = .ok (.goto 4, 3) := by decide +kernel
theorem d_Pl_setNumber_53 : decode prog_6_method_6_code 53 = .ok (.iload_n 2, 1) := by decide +kernel
theorem d_Pl_setNumber_54 : decode prog_6_method_6_code 54 = .ok (.iastore, 1) := by decide +kernel
theorem d_Pl_setNumber_55 : decode prog_6_method_6_code 55 = .ok (.iconst 1, 1) := by decide +kernel
theorem d_Pl_setNumber_56 : decode prog_6_method_6_code 56 = .ok (.ireturn, 1) := by decide +kernel
def wp_Pl_setNumber_b54 (n : Nat)  (Q : Int32 → sx_M → Prop) (w0n : Nat) (w1 : Int32) (w2 : Int32) (σ : sx_M) : Prop := vp_in w1 9 ∧ (∀ σ2 : sx_M, σ2 = sx_u σ 14 w0n 0 w1.toNatClampNeg w2 → (Q 1 σ2))
def wp_Pl_setNumber_b34 (n : Nat)  (Q : Int32 → sx_M → Prop)  (σ : sx_M) : Prop := Q 0 σ
def wp_Pl_setNumber (n : Nat) (x1 : Int32) (x2 : Int32) (σ : sx_M) (Q : Int32 → sx_M → Prop) : Prop := if x1 - 2 < 0 then (wp_Pl_setNumber_b34 n Q σ) else (if 9 ≤ x1 - 2 then (wp_Pl_setNumber_b34 n Q σ) else (vp_in (x1 - 2) 9 ∧ (if x2 < kx_sta 1 (x1 - 2).toNatClampNeg then (wp_Pl_setNumber_b34 n Q σ) else (vp_in (x1 - 2) 9 ∧ (if x2 ≤ kx_sta 2 (x1 - 2).toNatClampNeg then (if x1 - 2 = 0 then (wp_Pl_setNumber_b54 n Q n (x1 - 2) (x2 - (x2 - x2 / 2 * 2)) σ) else (wp_Pl_setNumber_b54 n Q n (x1 - 2) x2 σ)) else (wp_Pl_setNumber_b34 n Q σ))))))
abbrev rm_Pl_setNumber : Room := { frames := 0, cells := 0, slots := 0, locals := 0 }
set_option maxRecDepth 100000 in
set_option maxHeartbeats 4000000 in
theorem g_Pl_setNumber_b54 {l : Launch} {K : sx_K} {X : sx_T} {n : Nat}  {Q : Int32 → sx_M → Prop} (hX : sx_C X K prog_6_method_6_code 4 "SensorTree$Plan" (some .boolean) rm_Pl_setNumber l) (hK : kx_C K) (hE : sx_E X K (sx_Qi K (fun r σ _ => Q r σ))) (hn : n < 2) (w0n : Nat) (w1 : Int32) (w2 : Int32) (σ : sx_M) (τ : sx_L) (hw0n : w0n < 2) (h : wp_Pl_setNumber_b54 n Q  w0n w1 w2 σ) : sx_G X K 4 54 [] [.int w2, .int w1, .ref (K.2.2.1 14 w0n 0)] (sx_H K σ τ) := by
  unfold wp_Pl_setNumber_b54 at h
  obtain ⟨hc1, h⟩ := h
  refine sx_iast (pc2 := 55) hX (hK 14 w0n 0 hw0n (by decide)) (fun _ => rfl) hc1 d_Pl_setNumber_54 rfl ?_
  refine sx_nm (fun σ2 e2 => ?_)
  replace h := h σ2 e2
  refine sx_iconst (v := 1) (pc2 := 56) hX d_Pl_setNumber_55 (by decide) rfl ?_
  exact sx_zret hX hE (by decide) h d_Pl_setNumber_56
set_option maxRecDepth 100000 in
set_option maxHeartbeats 4000000 in
theorem g_Pl_setNumber_b34 {l : Launch} {K : sx_K} {X : sx_T} {n : Nat}  {Q : Int32 → sx_M → Prop} (hX : sx_C X K prog_6_method_6_code 4 "SensorTree$Plan" (some .boolean) rm_Pl_setNumber l) (hK : kx_C K) (hE : sx_E X K (sx_Qi K (fun r σ _ => Q r σ))) (hn : n < 2)  (σ : sx_M) (τ : sx_L)  (h : wp_Pl_setNumber_b34 n Q  σ) : sx_G X K 4 34 [] [] (sx_H K σ τ) := by
  unfold wp_Pl_setNumber_b34 at h
  refine sx_iconst (v := 0) (pc2 := 35) hX d_Pl_setNumber_34 (by decide) rfl ?_
  exact sx_zret hX hE (by decide) h d_Pl_setNumber_35
set_option maxRecDepth 100000 in
set_option maxHeartbeats 4000000 in
theorem c_Pl_setNumber {l : Launch} {K : sx_K} (hK : kx_C K) (n : Nat) (x1 : Int32) (x2 : Int32) (σ : sx_M) (τ : sx_L) (Q : Int32 → sx_M → Prop) (hn : n < 2) (h : wp_Pl_setNumber n x1 x2 σ Q) : Met l y_Pl_setNumber (sx_wd y_Pl_setNumber prog_6_method_6_code 4 (some .boolean)) rm_Pl_setNumber (sx_Pc K [.ref (K.2.2.1 8 n 0), .int x1, .int x2] σ τ) (sx_Qi K (fun r σ _ => Q r σ)) 0 0 (sx_A K) := by
  refine sx_met (by decide) (Nat.le_of_ble_eq_true rfl) (fun X hX hE => ?_)
  replace hX : sx_C X K prog_6_method_6_code 4 "SensorTree$Plan" (some .boolean) rm_Pl_setNumber l := hX
  show sx_G X K 4 0 [(0, .ref (K.2.2.1 8 n 0)), (1, .int x1), (2, .int x2)] [] (sx_H K σ τ)
  unfold wp_Pl_setNumber at h
  refine sx_iload_n (pc2 := 1) hX 1 d_Pl_setNumber_0 rfl rfl rfl ?_
  refine sx_iconst (v := 2) (pc2 := 2) hX d_Pl_setNumber_1 (by decide) rfl ?_
  refine sx_isub (pc2 := 3) hX d_Pl_setNumber_2 rfl ?_
  refine sx_istore_n (pc2 := 4) hX _ [(0, .ref (K.2.2.1 8 n 0)), (1, .int x1), (2, .int x2), (3, .int (x1 - 2))] [1, 2, 3, 0] d_Pl_setNumber_3 rfl (by decide) rfl rfl rfl ?_
  refine sx_iload_n (pc2 := 5) hX 3 d_Pl_setNumber_4 rfl rfl rfl ?_
  refine sx_if_lt (tgt := 34) (pc2 := 8) hX d_Pl_setNumber_5 (by decide) rfl (fun hc3 => ?_) (fun hc3 => ?_)
  · replace h := sx_t h hc3
    refine sx_sub [] [] rfl ?_
    exact g_Pl_setNumber_b34 hX hK hE hn  _ _ h
  · replace h := sx_f h hc3
    refine sx_iload_n (pc2 := 9) hX 3 d_Pl_setNumber_8 rfl rfl rfl ?_
    refine sx_gets (pc2 := 12) hX hX.2.2.2.2.2.2.2.2.2.2.2.1.2.1.1 lk_8 d_Pl_setNumber_9 rfl ?_
    refine sx_stlen (v := 9) (pc2 := 13) hX hX.2.2.2.2.2.2.2.2.2.2.2.1.2.1.2 (by decide) d_Pl_setNumber_12 rfl ?_
    refine sx_icmp_ge (tgt := 34) (pc2 := 16) hX d_Pl_setNumber_13 (by decide) rfl (fun hc4 => ?_) (fun hc4 => ?_)
    · replace h := sx_t h hc4
      refine sx_sub [] [] rfl ?_
      exact g_Pl_setNumber_b34 hX hK hE hn  _ _ h
    · replace h := sx_f h hc4
      refine sx_iload_n (pc2 := 17) hX 2 d_Pl_setNumber_16 rfl rfl rfl ?_
      refine sx_gets (pc2 := 20) hX hX.2.2.2.2.2.2.2.2.2.2.2.1.2.2.1.1 lk_10 d_Pl_setNumber_17 rfl ?_
      refine sx_iload_n (pc2 := 21) hX 3 d_Pl_setNumber_20 rfl rfl rfl ?_
      obtain ⟨hc5, h⟩ := h
      refine sx_sti (pc2 := 22) hX hX.2.2.2.2.2.2.2.2.2.2.2.1.2.2.1.2 hc5 d_Pl_setNumber_21 rfl ?_
      refine sx_icmp_lt (tgt := 34) (pc2 := 25) hX d_Pl_setNumber_22 (by decide) rfl (fun hc6 => ?_) (fun hc6 => ?_)
      · replace h := sx_t h hc6
        refine sx_sub [] [] rfl ?_
        exact g_Pl_setNumber_b34 hX hK hE hn  _ _ h
      · replace h := sx_f h hc6
        refine sx_iload_n (pc2 := 26) hX 2 d_Pl_setNumber_25 rfl rfl rfl ?_
        refine sx_gets (pc2 := 29) hX hX.2.2.2.2.2.2.2.2.2.2.2.1.2.2.2.1.1 lk_11 d_Pl_setNumber_26 rfl ?_
        refine sx_iload_n (pc2 := 30) hX 3 d_Pl_setNumber_29 rfl rfl rfl ?_
        obtain ⟨hc7, h⟩ := h
        refine sx_sti (pc2 := 31) hX hX.2.2.2.2.2.2.2.2.2.2.2.1.2.2.2.1.2 hc7 d_Pl_setNumber_30 rfl ?_
        refine sx_icmp_le (tgt := 36) (pc2 := 34) hX d_Pl_setNumber_31 (by decide) rfl (fun hc8 => ?_) (fun hc8 => ?_)
        · replace h := sx_t h hc8
          refine sx_aload_n (pc2 := 37) hX 0 d_Pl_setNumber_36 rfl rfl rfl ?_
          refine fg_Pl_36 (pc2 := 40) hX (hK 8 n 0 hn (by decide)) d_Pl_setNumber_37 rfl ?_
          refine sx_iload_n (pc2 := 41) hX 3 d_Pl_setNumber_40 rfl rfl rfl ?_
          refine sx_iload_n (pc2 := 42) hX 3 d_Pl_setNumber_41 rfl rfl rfl ?_
          refine sx_if_ne (tgt := 53) (pc2 := 45) hX d_Pl_setNumber_42 (by decide) rfl (fun hc9 => ?_) (fun hc9 => ?_)
          · replace h := sx_f h hc9
            refine sx_iload_n (pc2 := 54) hX 2 d_Pl_setNumber_53 rfl rfl rfl ?_
            refine sx_sub [] [] rfl ?_
            exact g_Pl_setNumber_b54 hX hK hE hn  n (x1 - 2) x2 _ _ hn h
          · replace h := sx_t h hc9
            refine sx_iload_n (pc2 := 46) hX 2 d_Pl_setNumber_45 rfl rfl rfl ?_
            refine sx_iload_n (pc2 := 47) hX 2 d_Pl_setNumber_46 rfl rfl rfl ?_
            refine sx_iconst (v := 2) (pc2 := 48) hX d_Pl_setNumber_47 (by decide) rfl ?_
            refine sx_irem (pc2 := 49) hX d_Pl_setNumber_48 (by decide) rfl ?_
            refine sx_isub (pc2 := 50) hX d_Pl_setNumber_49 rfl ?_
            refine sx_goto (tgt := 54) hX d_Pl_setNumber_50 (by decide) ?_
            refine sx_sub [] [] rfl ?_
            exact g_Pl_setNumber_b54 hX hK hE hn  n (x1 - 2) (x2 - (x2 - x2 / 2 * 2)) _ _ hn h
        · replace h := sx_f h hc8
          refine sx_sub [] [] rfl ?_
          exact g_Pl_setNumber_b34 hX hK hE hn  _ _ h
theorem cl_Re_85 {X : sx_T} {K : sx_K} {cc : ByteArray} {nL : Nat} {ret : Option FieldType} {rm : Room} {l : Launch} {pc pc2 : Nat} {lv : List (Nat × Value)} {st : List Value} {σ : sx_M} {τ : sx_L} {n : Nat} {x1 : Int32} {x2 : Int32} {Q : Int32 → sx_M → Prop} (hX : sx_C X K cc nL "SensorTree$Reader" ret rm l) (hK : kx_C K) (h : wp_Pl_setNumber n x1 x2 σ Q) (hn : n < 2) (hR : rm_Pl_setNumber.frames + 1 ≤ rm.frames ∧ 8 + (4 + 11) + rm_Pl_setNumber.locals ≤ rm.locals) (hst : (st.map fun v => v.category).sum ≤ 8) (hd : decode cc pc = .ok (.invokevirtual 85, 3)) (hpc : pc + 3 = pc2) (kk : ∀ (r : Int32) (σ2 : sx_M) (τ2 : sx_L), Q r σ2 → sx_G X K nL pc2 lv (.int r :: st) (sx_H K σ2 τ2)) : sx_G X K nL pc lv (.int x2 :: .int x1 :: .ref (K.2.2.1 8 n 0) :: st) (sx_H K σ τ) :=
  sx_callVi (Q := fun r σ _ => Q r σ) (As := [.int x1, .int x2]) hX (c_Pl_setNumber hK n x1 x2 σ τ Q hn h) (hK 8 n 0 hn (by decide)) rfl rfl lk_215 lk_216 hy_Pl_setNumber lk_213 lk_126 lk_214 ⟨rfl, rfl⟩ hR hst rfl hd hpc kk
def y_Pl_addLink : MethodName := ⟨"SensorTree$Plan", "addLink", "(III)V"⟩
theorem hy_Pl_addLink : y_Pl_addLink.cls ≠ "java/lang/invoke/MethodHandle" ∧ y_Pl_addLink.cls ≠ "java/lang/invoke/VarHandle" ∧ (parseMethodDescriptor y_Pl_addLink.desc).map (fun d => d.parameters.length) = some 3 := by decide +kernel
theorem d_Pl_addLink_0 : decode prog_6_method_7_code 0 = .ok (.aload_n 0, 1) := by decide +kernel
theorem d_Pl_addLink_1 : decode prog_6_method_7_code 1 = .ok (.getfield 15, 3) := by decide +kernel
theorem d_Pl_addLink_4 : decode prog_6_method_7_code 4 = .ok (.bipush 16, 2) := by decide +kernel
theorem d_Pl_addLink_6 : decode prog_6_method_7_code 6 = .ok (.if_icmp .ge 67, 3) := by decide +kernel
theorem d_Pl_addLink_9 : decode prog_6_method_7_code 9 = .ok (.aload_n 0, 1) := by decide +kernel
theorem d_Pl_addLink_10 : decode prog_6_method_7_code 10 = .ok (.getfield 18, 3) := by decide +kernel
theorem d_Pl_addLink_13 : decode prog_6_method_7_code 13 = .ok (.aload_n 0, 1) := by decide +kernel
theorem d_Pl_addLink_14 : decode prog_6_method_7_code 14 = .ok (.getfield 15, 3) := by decide +kernel
theorem d_Pl_addLink_17 : decode prog_6_method_7_code 17 = .ok (.iload_n 1, 1) := by decide +kernel
theorem d_Pl_addLink_18 : decode prog_6_method_7_code 18 = .ok (.iastore, 1) := by decide +kernel
theorem d_Pl_addLink_19 : decode prog_6_method_7_code 19 = .ok (.aload_n 0, 1) := by decide +kernel
theorem d_Pl_addLink_20 : decode prog_6_method_7_code 20 = .ok (.getfield 22, 3) := by decide +kernel
theorem d_Pl_addLink_23 : decode prog_6_method_7_code 23 = .ok (.aload_n 0, 1) := by decide +kernel
theorem d_Pl_addLink_24 : decode prog_6_method_7_code 24 = .ok (.getfield 15, 3) := by decide +kernel
theorem d_Pl_addLink_27 : decode prog_6_method_7_code 27 = .ok (.iload_n 2, 1) := by decide +kernel
theorem d_Pl_addLink_28 : decode prog_6_method_7_code 28 = .ok (.iastore, 1) := by decide +kernel
theorem d_Pl_addLink_29 : decode prog_6_method_7_code 29 = .ok (.aload_n 0, 1) := by decide +kernel
theorem d_Pl_addLink_30 : decode prog_6_method_7_code 30 = .ok (.getfield 25, 3) := by decide +kernel
theorem d_Pl_addLink_33 : decode prog_6_method_7_code 33 = .ok (.aload_n 0, 1) := by decide +kernel
theorem d_Pl_addLink_34 : decode prog_6_method_7_code 34 = .ok (.getfield 15, 3) := by decide +kernel
theorem d_Pl_addLink_37 : decode prog_6_method_7_code 37 = .ok (.iload_n 3, 1) := by decide +kernel
theorem d_Pl_addLink_38 : decode prog_6_method_7_code 38 = .ok (.iastore, 1) := by decide +kernel
theorem d_Pl_addLink_39 : decode prog_6_method_7_code 39 = .ok (.aload_n 0, 1) := by decide +kernel
theorem d_Pl_addLink_40 : decode prog_6_method_7_code 40 = .ok (.getfield 30, 3) := by decide +kernel
theorem d_Pl_addLink_43 : decode prog_6_method_7_code 43 = .ok (.iload_n 1, 1) := by decide +kernel
theorem d_Pl_addLink_44 : decode prog_6_method_7_code 44 = .ok (.aaload, 1) := by decide +kernel
theorem d_Pl_addLink_45 : decode prog_6_method_7_code 45 = .ok (.iload_n 2, 1) := by decide +kernel
theorem d_Pl_addLink_46 : decode prog_6_method_7_code 46 = .ok (.aload_n 0, 1) := by decide +kernel
theorem d_Pl_addLink_47 : decode prog_6_method_7_code 47 = .ok (.getfield 15, 3) := by decide +kernel
theorem d_Pl_addLink_50 : decode prog_6_method_7_code 50 = .ok (.iastore, 1) := by decide +kernel
theorem d_Pl_addLink_51 : decode prog_6_method_7_code 51 = .ok (.aload_n 0, 1) := by decide +kernel
theorem d_Pl_addLink_52 : decode prog_6_method_7_code 52 = .ok (.getfield 30, 3) := by decide +kernel
theorem d_Pl_addLink_55 : decode prog_6_method_7_code 55 = .ok (.iload_n 2, 1) := by decide +kernel
theorem d_Pl_addLink_56 : decode prog_6_method_7_code 56 = .ok (.aaload, 1) := by decide +kernel
theorem d_Pl_addLink_57 : decode prog_6_method_7_code 57 = .ok (.iload_n 1, 1) := by decide +kernel
theorem d_Pl_addLink_58 : decode prog_6_method_7_code 58 = .ok (.aload_n 0, 1) := by decide +kernel
theorem d_Pl_addLink_59 : decode prog_6_method_7_code 59 = .ok (.getfield 15, 3) := by decide +kernel
theorem d_Pl_addLink_62 : decode prog_6_method_7_code 62 = .ok (.iastore, 1) := by decide +kernel
theorem d_Pl_addLink_63 : decode prog_6_method_7_code 63 = .ok (.aload_n 0, 1) := by decide +kernel
theorem d_Pl_addLink_64 : decode prog_6_method_7_code 64 = .ok (.dup, 1) := by decide +kernel
theorem d_Pl_addLink_65 : decode prog_6_method_7_code 65 = .ok (.getfield 15, 3) := by decide +kernel
theorem d_Pl_addLink_68 : decode prog_6_method_7_code 68 = .ok (.iconst 1, 1) := by decide +kernel
theorem d_Pl_addLink_69 : decode prog_6_method_7_code 69 = .ok (.iadd, 1) := by decide +kernel
theorem d_Pl_addLink_70 : decode prog_6_method_7_code 70 = .ok (.putfield 15, 3) := by decide +kernel
theorem d_Pl_addLink_73 : decode prog_6_method_7_code 73 = .ok (.return_, 1) := by decide +kernel
def wp_Pl_addLink_b73 (n : Nat)  (Q : sx_M → Prop)  (σ : sx_M) : Prop := Q σ
def wp_Pl_addLink (n : Nat) (x1 : Int32) (x2 : Int32) (x3 : Int32) (σ : sx_M) (Q : sx_M → Prop) : Prop := if 16 ≤ σ 8 n 0 1 then (wp_Pl_addLink_b73 n Q σ) else (vp_in (σ 8 n 0 1) 16 ∧ (∀ σ3 : sx_M, σ3 = sx_u σ 9 n 0 (σ 8 n 0 1).toNatClampNeg x1 → (vp_in (σ3 8 n 0 1) 16 ∧ (∀ σ5 : sx_M, σ5 = sx_u σ3 10 n 0 (σ3 8 n 0 1).toNatClampNeg x2 → (vp_in (σ5 8 n 0 1) 16 ∧ (∀ σ7 : sx_M, σ7 = sx_u σ5 11 n 0 (σ5 8 n 0 1).toNatClampNeg x3 → (vp_in x1 7 ∧ (vp_in x2 7 ∧ (∀ σ10 : sx_M, σ10 = sx_u σ7 13 n x1.toNatClampNeg x2.toNatClampNeg (σ7 8 n 0 1) → (vp_in x2 7 ∧ (vp_in x1 7 ∧ (∀ σ13 : sx_M, σ13 = sx_u σ10 13 n x2.toNatClampNeg x1.toNatClampNeg (σ10 8 n 0 1) → (∀ σ14 : sx_M, σ14 = sx_u σ13 8 n 0 1 ((σ13 8 n 0 1) + 1) → (wp_Pl_addLink_b73 n Q σ14))))))))))))))
abbrev rm_Pl_addLink : Room := { frames := 0, cells := 0, slots := 0, locals := 0 }
set_option maxRecDepth 100000 in
set_option maxHeartbeats 4000000 in
theorem g_Pl_addLink_b73 {l : Launch} {K : sx_K} {X : sx_T} {n : Nat}  {Q : sx_M → Prop} (hX : sx_C X K prog_6_method_7_code 4 "SensorTree$Plan" none rm_Pl_addLink l) (hK : kx_C K) (hE : sx_E X K (sx_Qv K (fun σ _ => Q σ))) (hn : n < 2)  (σ : sx_M) (τ : sx_L)  (h : wp_Pl_addLink_b73 n Q  σ) : sx_G X K 4 73 [] [] (sx_H K σ τ) := by
  unfold wp_Pl_addLink_b73 at h
  exact sx_vret hX hE h d_Pl_addLink_73
set_option maxRecDepth 100000 in
set_option maxHeartbeats 4000000 in
theorem c_Pl_addLink {l : Launch} {K : sx_K} (hK : kx_C K) (n : Nat) (x1 : Int32) (x2 : Int32) (x3 : Int32) (σ : sx_M) (τ : sx_L) (Q : sx_M → Prop) (hn : n < 2) (h : wp_Pl_addLink n x1 x2 x3 σ Q) : Met l y_Pl_addLink (sx_wd y_Pl_addLink prog_6_method_7_code 4 none) rm_Pl_addLink (sx_Pc K [.ref (K.2.2.1 8 n 0), .int x1, .int x2, .int x3] σ τ) (sx_Qv K (fun σ _ => Q σ)) 0 0 (sx_A K) := by
  refine sx_met (by decide) (Nat.le_of_ble_eq_true rfl) (fun X hX hE => ?_)
  replace hX : sx_C X K prog_6_method_7_code 4 "SensorTree$Plan" none rm_Pl_addLink l := hX
  show sx_G X K 4 0 [(0, .ref (K.2.2.1 8 n 0)), (1, .int x1), (2, .int x2), (3, .int x3)] [] (sx_H K σ τ)
  unfold wp_Pl_addLink at h
  refine sx_aload_n (pc2 := 1) hX 0 d_Pl_addLink_0 rfl rfl rfl ?_
  refine fg_Pl_15 (pc2 := 4) hX (hK 8 n 0 hn (by decide)) d_Pl_addLink_1 rfl ?_
  refine sx_bipush (v := 16) (pc2 := 6) hX d_Pl_addLink_4 (by decide) rfl ?_
  refine sx_icmp_ge (tgt := 73) (pc2 := 9) hX d_Pl_addLink_6 (by decide) rfl (fun hc1 => ?_) (fun hc1 => ?_)
  · replace h := sx_t h hc1
    refine sx_sub [] [] rfl ?_
    exact g_Pl_addLink_b73 hX hK hE hn  _ _ h
  · replace h := sx_f h hc1
    refine sx_aload_n (pc2 := 10) hX 0 d_Pl_addLink_9 rfl rfl rfl ?_
    refine fg_Pl_18 (pc2 := 13) hX (hK 8 n 0 hn (by decide)) d_Pl_addLink_10 rfl ?_
    refine sx_aload_n (pc2 := 14) hX 0 d_Pl_addLink_13 rfl rfl rfl ?_
    refine fg_Pl_15 (pc2 := 17) hX (hK 8 n 0 hn (by decide)) d_Pl_addLink_14 rfl ?_
    refine sx_iload_n (pc2 := 18) hX 1 d_Pl_addLink_17 rfl rfl rfl ?_
    obtain ⟨hc2, h⟩ := h
    refine sx_iast (pc2 := 19) hX (hK 9 n 0 hn (by decide)) (fun _ => rfl) hc2 d_Pl_addLink_18 rfl ?_
    refine sx_nm (fun σ3 e3 => ?_)
    replace h := h σ3 e3
    refine sx_aload_n (pc2 := 20) hX 0 d_Pl_addLink_19 rfl rfl rfl ?_
    refine fg_Pl_22 (pc2 := 23) hX (hK 8 n 0 hn (by decide)) d_Pl_addLink_20 rfl ?_
    refine sx_aload_n (pc2 := 24) hX 0 d_Pl_addLink_23 rfl rfl rfl ?_
    refine fg_Pl_15 (pc2 := 27) hX (hK 8 n 0 hn (by decide)) d_Pl_addLink_24 rfl ?_
    refine sx_iload_n (pc2 := 28) hX 2 d_Pl_addLink_27 rfl rfl rfl ?_
    obtain ⟨hc4, h⟩ := h
    refine sx_iast (pc2 := 29) hX (hK 10 n 0 hn (by decide)) (fun _ => rfl) hc4 d_Pl_addLink_28 rfl ?_
    refine sx_nm (fun σ5 e5 => ?_)
    replace h := h σ5 e5
    refine sx_aload_n (pc2 := 30) hX 0 d_Pl_addLink_29 rfl rfl rfl ?_
    refine fg_Pl_25 (pc2 := 33) hX (hK 8 n 0 hn (by decide)) d_Pl_addLink_30 rfl ?_
    refine sx_aload_n (pc2 := 34) hX 0 d_Pl_addLink_33 rfl rfl rfl ?_
    refine fg_Pl_15 (pc2 := 37) hX (hK 8 n 0 hn (by decide)) d_Pl_addLink_34 rfl ?_
    refine sx_iload_n (pc2 := 38) hX 3 d_Pl_addLink_37 rfl rfl rfl ?_
    obtain ⟨hc6, h⟩ := h
    refine sx_iast (pc2 := 39) hX (hK 11 n 0 hn (by decide)) (fun _ => rfl) hc6 d_Pl_addLink_38 rfl ?_
    refine sx_nm (fun σ7 e7 => ?_)
    replace h := h σ7 e7
    refine sx_aload_n (pc2 := 40) hX 0 d_Pl_addLink_39 rfl rfl rfl ?_
    refine fg_Pl_30 (pc2 := 43) hX (hK 8 n 0 hn (by decide)) d_Pl_addLink_40 rfl ?_
    refine sx_iload_n (pc2 := 44) hX 1 d_Pl_addLink_43 rfl rfl rfl ?_
    obtain ⟨hc8, h⟩ := h
    refine sx_aalA (a := K.2.2.1 13 n x1.toNatClampNeg) (pc2 := 45) hX (hK 12 n 0 hn (by decide)) rfl rfl hc8 d_Pl_addLink_44 rfl ?_
    refine sx_iload_n (pc2 := 46) hX 2 d_Pl_addLink_45 rfl rfl rfl ?_
    refine sx_aload_n (pc2 := 47) hX 0 d_Pl_addLink_46 rfl rfl rfl ?_
    refine fg_Pl_15 (pc2 := 50) hX (hK 8 n 0 hn (by decide)) d_Pl_addLink_47 rfl ?_
    obtain ⟨hc9, h⟩ := h
    refine sx_iast (pc2 := 51) hX (hK 13 n x1.toNatClampNeg hn (sx_lt hc8)) (fun _ => rfl) hc9 d_Pl_addLink_50 rfl ?_
    refine sx_nm (fun σ10 e10 => ?_)
    replace h := h σ10 e10
    refine sx_aload_n (pc2 := 52) hX 0 d_Pl_addLink_51 rfl rfl rfl ?_
    refine fg_Pl_30 (pc2 := 55) hX (hK 8 n 0 hn (by decide)) d_Pl_addLink_52 rfl ?_
    refine sx_iload_n (pc2 := 56) hX 2 d_Pl_addLink_55 rfl rfl rfl ?_
    obtain ⟨hc11, h⟩ := h
    refine sx_aalA (a := K.2.2.1 13 n x2.toNatClampNeg) (pc2 := 57) hX (hK 12 n 0 hn (by decide)) rfl rfl hc11 d_Pl_addLink_56 rfl ?_
    refine sx_iload_n (pc2 := 58) hX 1 d_Pl_addLink_57 rfl rfl rfl ?_
    refine sx_aload_n (pc2 := 59) hX 0 d_Pl_addLink_58 rfl rfl rfl ?_
    refine fg_Pl_15 (pc2 := 62) hX (hK 8 n 0 hn (by decide)) d_Pl_addLink_59 rfl ?_
    obtain ⟨hc12, h⟩ := h
    refine sx_iast (pc2 := 63) hX (hK 13 n x2.toNatClampNeg hn (sx_lt hc11)) (fun _ => rfl) hc12 d_Pl_addLink_62 rfl ?_
    refine sx_nm (fun σ13 e13 => ?_)
    replace h := h σ13 e13
    refine sx_aload_n (pc2 := 64) hX 0 d_Pl_addLink_63 rfl rfl rfl ?_
    refine sx_dup (pc2 := 65) hX d_Pl_addLink_64 rfl rfl ?_
    refine fg_Pl_15 (pc2 := 68) hX (hK 8 n 0 hn (by decide)) d_Pl_addLink_65 rfl ?_
    refine sx_iconst (v := 1) (pc2 := 69) hX d_Pl_addLink_68 (by decide) rfl ?_
    refine sx_iadd (pc2 := 70) hX d_Pl_addLink_69 rfl ?_
    refine fp_Pl_15 (pc2 := 73) hX (hK 8 n 0 hn (by decide)) d_Pl_addLink_70 rfl ?_
    refine sx_nm (fun σ14 e14 => ?_)
    replace h := h σ14 e14
    refine sx_sub [] [] rfl ?_
    exact g_Pl_addLink_b73 hX hK hE hn  _ _ h
theorem cl_Re_103 {X : sx_T} {K : sx_K} {cc : ByteArray} {nL : Nat} {ret : Option FieldType} {rm : Room} {l : Launch} {pc pc2 : Nat} {lv : List (Nat × Value)} {st : List Value} {σ : sx_M} {τ : sx_L} {n : Nat} {x1 : Int32} {x2 : Int32} {x3 : Int32} {Q : sx_M → Prop} (hX : sx_C X K cc nL "SensorTree$Reader" ret rm l) (hK : kx_C K) (h : wp_Pl_addLink n x1 x2 x3 σ Q) (hn : n < 2) (hR : rm_Pl_addLink.frames + 1 ≤ rm.frames ∧ 8 + (4 + 11) + rm_Pl_addLink.locals ≤ rm.locals) (hst : (st.map fun v => v.category).sum ≤ 8) (hd : decode cc pc = .ok (.invokevirtual 103, 3)) (hpc : pc + 3 = pc2) (kk : ∀ (σ2 : sx_M) (τ2 : sx_L), Q σ2 → sx_G X K nL pc2 lv (st) (sx_H K σ2 τ2)) : sx_G X K nL pc lv (.int x3 :: .int x2 :: .int x1 :: .ref (K.2.2.1 8 n 0) :: st) (sx_H K σ τ) :=
  sx_callVv (Q := fun σ _ => Q σ) (As := [.int x1, .int x2, .int x3]) hX (c_Pl_addLink hK n x1 x2 x3 σ τ Q hn h) (hK 8 n 0 hn (by decide)) rfl rfl lk_208 lk_209 hy_Pl_addLink lk_206 lk_126 lk_207 ⟨rfl, rfl⟩ hR hst rfl hd hpc kk
def y_Po_tell : MethodName := ⟨"SensorTree$Post", "tell", "(I)I"⟩
theorem hy_Po_tell : y_Po_tell.cls ≠ "java/lang/invoke/MethodHandle" ∧ y_Po_tell.cls ≠ "java/lang/invoke/VarHandle" ∧ (parseMethodDescriptor y_Po_tell.desc).map (fun d => d.parameters.length) = some 1 := by decide +kernel
theorem d_Po_tell_0 : decode prog_7_method_5_code 0 = .ok (.iload_n 1, 1) := by decide +kernel
theorem d_Po_tell_1 : decode prog_7_method_5_code 1 = .ok (.tableswitch 122 0 10 #[59, 72, 77, 82, 87, 92, 97, 102, 107, 112, 117], 59) := by decide +kernel
theorem d_Po_tell_60 : decode prog_7_method_5_code 60 = .ok (.aload_n 0, 1) := by decide +kernel
theorem d_Po_tell_61 : decode prog_7_method_5_code 61 = .ok (.getfield 21, 3) := by decide +kernel
theorem d_Po_tell_64 : decode prog_7_method_5_code 64 = .ok (.ifCond .eq 7, 3) := by decide +kernel
theorem d_Po_tell_67 : decode prog_7_method_5_code 67 = .ok (.iconst 1, 1) := by decide +kernel
theorem d_Po_tell_68 : decode prog_7_method_5_code 68 = .ok (.goto 4, 3) := by decide +kernel
theorem d_Po_tell_71 : decode prog_7_method_5_code 71 = .ok (.iconst 0, 1) := by decide +kernel
theorem d_Po_tell_72 : decode prog_7_method_5_code 72 = .ok (.ireturn, 1) := by decide +kernel
theorem d_Po_tell_73 : decode prog_7_method_5_code 73 = .ok (.aload_n 0, 1) := by decide +kernel
theorem d_Po_tell_74 : decode prog_7_method_5_code 74 = .ok (.getfield 25, 3) := by decide +kernel
theorem d_Po_tell_77 : decode prog_7_method_5_code 77 = .ok (.ireturn, 1) := by decide +kernel
theorem d_Po_tell_78 : decode prog_7_method_5_code 78 = .ok (.aload_n 0, 1) := by decide +kernel
theorem d_Po_tell_79 : decode prog_7_method_5_code 79 = .ok (.getfield 29, 3) := by decide +kernel
theorem d_Po_tell_82 : decode prog_7_method_5_code 82 = .ok (.ireturn, 1) := by decide +kernel
theorem d_Po_tell_83 : decode prog_7_method_5_code 83 = .ok (.aload_n 0, 1) := by decide +kernel
theorem d_Po_tell_84 : decode prog_7_method_5_code 84 = .ok (.getfield 32, 3) := by decide +kernel
theorem d_Po_tell_87 : decode prog_7_method_5_code 87 = .ok (.ireturn, 1) := by decide +kernel
theorem d_Po_tell_88 : decode prog_7_method_5_code 88 = .ok (.aload_n 0, 1) := by decide +kernel
theorem d_Po_tell_89 : decode prog_7_method_5_code 89 = .ok (.getfield 35, 3) := by decide +kernel
theorem d_Po_tell_92 : decode prog_7_method_5_code 92 = .ok (.ireturn, 1) := by decide +kernel
theorem d_Po_tell_93 : decode prog_7_method_5_code 93 = .ok (.aload_n 0, 1) := by decide +kernel
theorem d_Po_tell_94 : decode prog_7_method_5_code 94 = .ok (.getfield 38, 3) := by decide +kernel
theorem d_Po_tell_97 : decode prog_7_method_5_code 97 = .ok (.ireturn, 1) := by decide +kernel
theorem d_Po_tell_98 : decode prog_7_method_5_code 98 = .ok (.aload_n 0, 1) := by decide +kernel
theorem d_Po_tell_99 : decode prog_7_method_5_code 99 = .ok (.getfield 44, 3) := by decide +kernel
theorem d_Po_tell_102 : decode prog_7_method_5_code 102 = .ok (.ireturn, 1) := by decide +kernel
theorem d_Po_tell_103 : decode prog_7_method_5_code 103 = .ok (.aload_n 0, 1) := by decide +kernel
theorem d_Po_tell_104 : decode prog_7_method_5_code 104 = .ok (.getfield 47, 3) := by decide +kernel
theorem d_Po_tell_107 : decode prog_7_method_5_code 107 = .ok (.ireturn, 1) := by decide +kernel
theorem d_Po_tell_108 : decode prog_7_method_5_code 108 = .ok (.aload_n 0, 1) := by decide +kernel
theorem d_Po_tell_109 : decode prog_7_method_5_code 109 = .ok (.getfield 50, 3) := by decide +kernel
theorem d_Po_tell_112 : decode prog_7_method_5_code 112 = .ok (.ireturn, 1) := by decide +kernel
theorem d_Po_tell_113 : decode prog_7_method_5_code 113 = .ok (.aload_n 0, 1) := by decide +kernel
theorem d_Po_tell_114 : decode prog_7_method_5_code 114 = .ok (.getfield 53, 3) := by decide +kernel
theorem d_Po_tell_117 : decode prog_7_method_5_code 117 = .ok (.ireturn, 1) := by decide +kernel
theorem d_Po_tell_118 : decode prog_7_method_5_code 118 = .ok (.aload_n 0, 1) := by decide +kernel
theorem d_Po_tell_119 : decode prog_7_method_5_code 119 = .ok (.getfield 56, 3) := by decide +kernel
theorem d_Po_tell_122 : decode prog_7_method_5_code 122 = .ok (.ireturn, 1) := by decide +kernel
theorem d_Po_tell_123 : decode prog_7_method_5_code 123 = .ok (.iconst (-1), 1) := by decide +kernel
theorem d_Po_tell_124 : decode prog_7_method_5_code 124 = .ok (.ireturn, 1) := by decide +kernel
def wp_Po_tell_b72 (n : Nat) (p : Nat)  (Q : Int32 → sx_M → Prop) (w0 : Int32) (σ : sx_M) : Prop := Q w0 σ
def wp_Po_tell (n : Nat) (p : Nat) (x1 : Int32) (σ : sx_M) (Q : Int32 → sx_M → Prop) : Prop := if x1 = 0 then (if σ 27 n p 0 = 0 then (wp_Po_tell_b72 n p Q 0 σ) else (wp_Po_tell_b72 n p Q 1 σ)) else (if x1 = 1 then (Q (σ 27 n p 1) σ) else (if x1 = 2 then (Q (σ 27 n p 2) σ) else (if x1 = 3 then (Q (σ 27 n p 3) σ) else (if x1 = 4 then (Q (σ 27 n p 4) σ) else (if x1 = 5 then (Q (σ 27 n p 5) σ) else (if x1 = 6 then (Q (σ 27 n p 6) σ) else (if x1 = 7 then (Q (σ 27 n p 7) σ) else (if x1 = 8 then (Q (σ 27 n p 8) σ) else (if x1 = 9 then (Q (σ 27 n p 9) σ) else (if x1 = 10 then (Q (σ 27 n p 10) σ) else (Q (-1) σ)))))))))))
abbrev rm_Po_tell : Room := { frames := 0, cells := 0, slots := 0, locals := 0 }
set_option maxRecDepth 100000 in
set_option maxHeartbeats 4000000 in
theorem g_Po_tell_b72 {l : Launch} {K : sx_K} {X : sx_T} {n : Nat} {p : Nat}  {Q : Int32 → sx_M → Prop} (hX : sx_C X K prog_7_method_5_code 2 "SensorTree$Post" (some .int) rm_Po_tell l) (hK : kx_C K) (hE : sx_E X K (sx_Qi K (fun r σ _ => Q r σ))) (hn : n < 25) (hp : p < 7) (w0 : Int32) (σ : sx_M) (τ : sx_L)  (h : wp_Po_tell_b72 n p Q  w0 σ) : sx_G X K 2 72 [] [.int w0] (sx_H K σ τ) := by
  unfold wp_Po_tell_b72 at h
  exact sx_iret hX hE h d_Po_tell_72
set_option maxRecDepth 100000 in
set_option maxHeartbeats 4000000 in
theorem c_Po_tell {l : Launch} {K : sx_K} (hK : kx_C K) (n : Nat) (p : Nat) (x1 : Int32) (σ : sx_M) (τ : sx_L) (Q : Int32 → sx_M → Prop) (hn : n < 25) (hp : p < 7) (h : wp_Po_tell n p x1 σ Q) : Met l y_Po_tell (sx_wd y_Po_tell prog_7_method_5_code 2 (some .int)) rm_Po_tell (sx_Pc K [.ref (K.2.2.1 27 n p), .int x1] σ τ) (sx_Qi K (fun r σ _ => Q r σ)) 0 0 (sx_A K) := by
  refine sx_met (by decide) (Nat.le_of_ble_eq_true rfl) (fun X hX hE => ?_)
  replace hX : sx_C X K prog_7_method_5_code 2 "SensorTree$Post" (some .int) rm_Po_tell l := hX
  show sx_G X K 2 0 [(0, .ref (K.2.2.1 27 n p)), (1, .int x1)] [] (sx_H K σ τ)
  unfold wp_Po_tell at h
  refine sx_iload_n (pc2 := 1) hX 1 d_Po_tell_0 rfl rfl rfl ?_
  by_cases hc1 : x1 = 0
  · replace h := sx_t h hc1
    refine sx_swi (tgt := 60) hX 0 hc1 d_Po_tell_1 (by decide) (by decide) rfl (by decide) ?_
    refine sx_aload_n (pc2 := 61) hX 0 d_Po_tell_60 rfl rfl rfl ?_
    refine fg_Po_21 (pc2 := 64) hX (hK 27 n p hn hp) d_Po_tell_61 rfl ?_
    refine sx_if_eq (tgt := 71) (pc2 := 67) hX d_Po_tell_64 (by decide) rfl (fun hc2 => ?_) (fun hc2 => ?_)
    · replace h := sx_t h hc2
      refine sx_iconst (v := 0) (pc2 := 72) hX d_Po_tell_71 (by decide) rfl ?_
      refine sx_sub [] [] rfl ?_
      exact g_Po_tell_b72 hX hK hE hn hp  0 _ _ h
    · replace h := sx_f h hc2
      refine sx_iconst (v := 1) (pc2 := 68) hX d_Po_tell_67 (by decide) rfl ?_
      refine sx_goto (tgt := 72) hX d_Po_tell_68 (by decide) ?_
      refine sx_sub [] [] rfl ?_
      exact g_Po_tell_b72 hX hK hE hn hp  1 _ _ h
  · replace h := sx_f h hc1
    by_cases hc3 : x1 = 1
    · replace h := sx_t h hc3
      refine sx_swi (tgt := 73) hX 1 hc3 d_Po_tell_1 (by decide) (by decide) rfl (by decide) ?_
      refine sx_aload_n (pc2 := 74) hX 0 d_Po_tell_73 rfl rfl rfl ?_
      refine fg_Po_25 (pc2 := 77) hX (hK 27 n p hn hp) d_Po_tell_74 rfl ?_
      exact sx_iret hX hE h d_Po_tell_77
    · replace h := sx_f h hc3
      by_cases hc4 : x1 = 2
      · replace h := sx_t h hc4
        refine sx_swi (tgt := 78) hX 2 hc4 d_Po_tell_1 (by decide) (by decide) rfl (by decide) ?_
        refine sx_aload_n (pc2 := 79) hX 0 d_Po_tell_78 rfl rfl rfl ?_
        refine fg_Po_29 (pc2 := 82) hX (hK 27 n p hn hp) d_Po_tell_79 rfl ?_
        exact sx_iret hX hE h d_Po_tell_82
      · replace h := sx_f h hc4
        by_cases hc5 : x1 = 3
        · replace h := sx_t h hc5
          refine sx_swi (tgt := 83) hX 3 hc5 d_Po_tell_1 (by decide) (by decide) rfl (by decide) ?_
          refine sx_aload_n (pc2 := 84) hX 0 d_Po_tell_83 rfl rfl rfl ?_
          refine fg_Po_32 (pc2 := 87) hX (hK 27 n p hn hp) d_Po_tell_84 rfl ?_
          exact sx_iret hX hE h d_Po_tell_87
        · replace h := sx_f h hc5
          by_cases hc6 : x1 = 4
          · replace h := sx_t h hc6
            refine sx_swi (tgt := 88) hX 4 hc6 d_Po_tell_1 (by decide) (by decide) rfl (by decide) ?_
            refine sx_aload_n (pc2 := 89) hX 0 d_Po_tell_88 rfl rfl rfl ?_
            refine fg_Po_35 (pc2 := 92) hX (hK 27 n p hn hp) d_Po_tell_89 rfl ?_
            exact sx_iret hX hE h d_Po_tell_92
          · replace h := sx_f h hc6
            by_cases hc7 : x1 = 5
            · replace h := sx_t h hc7
              refine sx_swi (tgt := 93) hX 5 hc7 d_Po_tell_1 (by decide) (by decide) rfl (by decide) ?_
              refine sx_aload_n (pc2 := 94) hX 0 d_Po_tell_93 rfl rfl rfl ?_
              refine fg_Po_38 (pc2 := 97) hX (hK 27 n p hn hp) d_Po_tell_94 rfl ?_
              exact sx_iret hX hE h d_Po_tell_97
            · replace h := sx_f h hc7
              by_cases hc8 : x1 = 6
              · replace h := sx_t h hc8
                refine sx_swi (tgt := 98) hX 6 hc8 d_Po_tell_1 (by decide) (by decide) rfl (by decide) ?_
                refine sx_aload_n (pc2 := 99) hX 0 d_Po_tell_98 rfl rfl rfl ?_
                refine fg_Po_44 (pc2 := 102) hX (hK 27 n p hn hp) d_Po_tell_99 rfl ?_
                exact sx_iret hX hE h d_Po_tell_102
              · replace h := sx_f h hc8
                by_cases hc9 : x1 = 7
                · replace h := sx_t h hc9
                  refine sx_swi (tgt := 103) hX 7 hc9 d_Po_tell_1 (by decide) (by decide) rfl (by decide) ?_
                  refine sx_aload_n (pc2 := 104) hX 0 d_Po_tell_103 rfl rfl rfl ?_
                  refine fg_Po_47 (pc2 := 107) hX (hK 27 n p hn hp) d_Po_tell_104 rfl ?_
                  exact sx_iret hX hE h d_Po_tell_107
                · replace h := sx_f h hc9
                  by_cases hc10 : x1 = 8
                  · replace h := sx_t h hc10
                    refine sx_swi (tgt := 108) hX 8 hc10 d_Po_tell_1 (by decide) (by decide) rfl (by decide) ?_
                    refine sx_aload_n (pc2 := 109) hX 0 d_Po_tell_108 rfl rfl rfl ?_
                    refine fg_Po_50 (pc2 := 112) hX (hK 27 n p hn hp) d_Po_tell_109 rfl ?_
                    exact sx_iret hX hE h d_Po_tell_112
                  · replace h := sx_f h hc10
                    by_cases hc11 : x1 = 9
                    · replace h := sx_t h hc11
                      refine sx_swi (tgt := 113) hX 9 hc11 d_Po_tell_1 (by decide) (by decide) rfl (by decide) ?_
                      refine sx_aload_n (pc2 := 114) hX 0 d_Po_tell_113 rfl rfl rfl ?_
                      refine fg_Po_53 (pc2 := 117) hX (hK 27 n p hn hp) d_Po_tell_114 rfl ?_
                      exact sx_iret hX hE h d_Po_tell_117
                    · replace h := sx_f h hc11
                      by_cases hc12 : x1 = 10
                      · replace h := sx_t h hc12
                        refine sx_swi (tgt := 118) hX 10 hc12 d_Po_tell_1 (by decide) (by decide) rfl (by decide) ?_
                        refine sx_aload_n (pc2 := 119) hX 0 d_Po_tell_118 rfl rfl rfl ?_
                        refine fg_Po_56 (pc2 := 122) hX (hK 27 n p hn hp) d_Po_tell_119 rfl ?_
                        exact sx_iret hX hE h d_Po_tell_122
                      · replace h := sx_f h hc12
                        refine sx_swo (tgt := 123) hX d_Po_tell_1 (sx_out x1 10 (fun j hj => match j, hj with | 0, _ => hc1 | 1, _ => hc3 | 2, _ => hc4 | 3, _ => hc5 | 4, _ => hc6 | 5, _ => hc7 | 6, _ => hc8 | 7, _ => hc9 | 8, _ => hc10 | 9, _ => hc11 | 10, _ => hc12 | j + 11, hj => absurd hj (by omega)) (by decide)) (by decide) ?_
                        refine sx_iconst (v := (-1)) (pc2 := 124) hX d_Po_tell_123 (by decide) rfl ?_
                        exact sx_iret hX hE h d_Po_tell_124
theorem cl_St_193 {X : sx_T} {K : sx_K} {cc : ByteArray} {nL : Nat} {ret : Option FieldType} {rm : Room} {l : Launch} {pc pc2 : Nat} {lv : List (Nat × Value)} {st : List Value} {σ : sx_M} {τ : sx_L} {n : Nat} {p : Nat} {x1 : Int32} {Q : Int32 → sx_M → Prop} (hX : sx_C X K cc nL "SensorTree" ret rm l) (hK : kx_C K) (h : wp_Po_tell n p x1 σ Q) (hn : n < 25) (hp : p < 7) (hR : rm_Po_tell.frames + 1 ≤ rm.frames ∧ 8 + (2 + 11) + rm_Po_tell.locals ≤ rm.locals) (hst : (st.map fun v => v.category).sum ≤ 8) (hd : decode cc pc = .ok (.invokevirtual 193, 3)) (hpc : pc + 3 = pc2) (kk : ∀ (r : Int32) (σ2 : sx_M) (τ2 : sx_L), Q r σ2 → sx_G X K nL pc2 lv (.int r :: st) (sx_H K σ2 τ2)) : sx_G X K nL pc lv (.int x1 :: .ref (K.2.2.1 27 n p) :: st) (sx_H K σ τ) :=
  sx_callVi (Q := fun r σ _ => Q r σ) (As := [.int x1]) hX (c_Po_tell hK n p x1 σ τ Q hn hp h) (hK 27 n p hn hp) rfl rfl lk_308 lk_309 hy_Po_tell lk_306 lk_22 lk_307 ⟨rfl, rfl⟩ hR hst rfl hd hpc kk
def y_To_clear : MethodName := ⟨"SensorTree$Tokens", "clear", "()V"⟩
theorem hy_To_clear : y_To_clear.cls ≠ "java/lang/invoke/MethodHandle" ∧ y_To_clear.cls ≠ "java/lang/invoke/VarHandle" ∧ (parseMethodDescriptor y_To_clear.desc).map (fun d => d.parameters.length) = some 0 := by decide +kernel
theorem d_To_clear_0 : decode prog_10_method_3_code 0 = .ok (.aload_n 0, 1) := by decide +kernel
theorem d_To_clear_1 : decode prog_10_method_3_code 1 = .ok (.iconst 0, 1) := by decide +kernel
theorem d_To_clear_2 : decode prog_10_method_3_code 2 = .ok (.putfield 21, 3) := by decide +kernel
theorem d_To_clear_5 : decode prog_10_method_3_code 5 = .ok (.aload_n 0, 1) := by decide +kernel
theorem d_To_clear_6 : decode prog_10_method_3_code 6 = .ok (.iconst 0, 1) := by decide +kernel
theorem d_To_clear_7 : decode prog_10_method_3_code 7 = .ok (.putfield 25, 3) := by decide +kernel
theorem d_To_clear_10 : decode prog_10_method_3_code 10 = .ok (.aload_n 0, 1) := by decide +kernel
theorem d_To_clear_11 : decode prog_10_method_3_code 11 = .ok (.iconst (-1), 1) := by decide +kernel
theorem d_To_clear_12 : decode prog_10_method_3_code 12 = .ok (.putfield 28, 3) := by decide +kernel
theorem d_To_clear_15 : decode prog_10_method_3_code 15 = .ok (.aload_n 0, 1) := by decide +kernel
theorem d_To_clear_16 : decode prog_10_method_3_code 16 = .ok (.ldc 31, 2) := by decide +kernel
theorem d_To_clear_18 : decode prog_10_method_3_code 18 = .ok (.putfield 33, 3) := by decide +kernel
theorem d_To_clear_21 : decode prog_10_method_3_code 21 = .ok (.aload_n 0, 1) := by decide +kernel
theorem d_To_clear_22 : decode prog_10_method_3_code 22 = .ok (.iconst 0, 1) := by decide +kernel
theorem d_To_clear_23 : decode prog_10_method_3_code 23 = .ok (.putfield 37, 3) := by decide +kernel
theorem d_To_clear_26 : decode prog_10_method_3_code 26 = .ok (.aload_n 0, 1) := by decide +kernel
theorem d_To_clear_27 : decode prog_10_method_3_code 27 = .ok (.iconst 0, 1) := by decide +kernel
theorem d_To_clear_28 : decode prog_10_method_3_code 28 = .ok (.putfield 40, 3) := by decide +kernel
theorem d_To_clear_31 : decode prog_10_method_3_code 31 = .ok (.aload_n 0, 1) := by decide +kernel
theorem d_To_clear_32 : decode prog_10_method_3_code 32 = .ok (.iconst 0, 1) := by decide +kernel
theorem d_To_clear_33 : decode prog_10_method_3_code 33 = .ok (.putfield 43, 3) := by decide +kernel
theorem d_To_clear_36 : decode prog_10_method_3_code 36 = .ok (.return_, 1) := by decide +kernel
def wp_To_clear  (σ : sx_M) (Q : sx_M → Prop) : Prop := ∀ σ1 : sx_M, σ1 = sx_u σ 4 0 0 3 0 → (∀ σ2 : sx_M, σ2 = sx_u σ1 4 0 0 4 0 → (∀ σ3 : sx_M, σ3 = sx_u σ2 4 0 0 5 (-1) → (∀ σ4 : sx_M, σ4 = sx_u σ3 4 0 0 6 (0 : Int32) → (∀ σ5 : sx_M, σ5 = sx_u σ4 4 0 0 7 0 → (∀ σ6 : sx_M, σ6 = sx_u σ5 4 0 0 8 0 → (∀ σ7 : sx_M, σ7 = sx_u σ6 4 0 0 9 0 → (Q σ7)))))))
abbrev rm_To_clear : Room := { frames := 0, cells := 0, slots := 0, locals := 0 }
set_option maxRecDepth 100000 in
set_option maxHeartbeats 4000000 in
theorem c_To_clear {l : Launch} {K : sx_K} (hK : kx_C K)  (σ : sx_M) (τ : sx_L) (Q : sx_M → Prop)  (h : wp_To_clear σ Q) : Met l y_To_clear (sx_wd y_To_clear prog_10_method_3_code 1 none) rm_To_clear (sx_Pc K [.ref (K.2.2.1 4 0 0)] σ τ) (sx_Qv K (fun σ _ => Q σ)) 0 0 (sx_A K) := by
  refine sx_met (by decide) (Nat.le_of_ble_eq_true rfl) (fun X hX hE => ?_)
  replace hX : sx_C X K prog_10_method_3_code 1 "SensorTree$Tokens" none rm_To_clear l := hX
  show sx_G X K 1 0 [(0, .ref (K.2.2.1 4 0 0))] [] (sx_H K σ τ)
  unfold wp_To_clear at h
  refine sx_aload_n (pc2 := 1) hX 0 d_To_clear_0 rfl rfl rfl ?_
  refine sx_iconst (v := 0) (pc2 := 2) hX d_To_clear_1 (by decide) rfl ?_
  refine fp_To_21 (pc2 := 5) hX (hK 4 0 0 (by decide) (by decide)) d_To_clear_2 rfl ?_
  refine sx_nm (fun σ1 e1 => ?_)
  replace h := h σ1 e1
  refine sx_aload_n (pc2 := 6) hX 0 d_To_clear_5 rfl rfl rfl ?_
  refine sx_iconst (v := 0) (pc2 := 7) hX d_To_clear_6 (by decide) rfl ?_
  refine fp_To_25 (pc2 := 10) hX (hK 4 0 0 (by decide) (by decide)) d_To_clear_7 rfl ?_
  refine sx_nm (fun σ2 e2 => ?_)
  replace h := h σ2 e2
  refine sx_aload_n (pc2 := 11) hX 0 d_To_clear_10 rfl rfl rfl ?_
  refine sx_iconst (v := (-1)) (pc2 := 12) hX d_To_clear_11 (by decide) rfl ?_
  refine fp_To_28 (pc2 := 15) hX (hK 4 0 0 (by decide) (by decide)) d_To_clear_12 rfl ?_
  refine sx_nm (fun σ3 e3 => ?_)
  replace h := h σ3 e3
  refine sx_aload_n (pc2 := 16) hX 0 d_To_clear_15 rfl rfl rfl ?_
  refine sx_ldcS (pc2 := 18) hX hX.2.2.2.2.2.2.2.2.2.2.2.2.1 d_To_clear_16 rfl ?_
  refine sx_ref (a2 := K.2.2.1 40 (0 : Int32).toNatClampNeg 0) rfl ?_
  refine fp_To_33 (pc2 := 21) hX ((0 : Int32)) (hK 4 0 0 (by decide) (by decide)) d_To_clear_18 rfl ?_
  refine sx_nm (fun σ4 e4 => ?_)
  replace h := h σ4 e4
  refine sx_aload_n (pc2 := 22) hX 0 d_To_clear_21 rfl rfl rfl ?_
  refine sx_iconst (v := 0) (pc2 := 23) hX d_To_clear_22 (by decide) rfl ?_
  refine fp_To_37 (pc2 := 26) hX (hK 4 0 0 (by decide) (by decide)) d_To_clear_23 rfl ?_
  refine sx_nm (fun σ5 e5 => ?_)
  replace h := h σ5 e5
  refine sx_aload_n (pc2 := 27) hX 0 d_To_clear_26 rfl rfl rfl ?_
  refine sx_iconst (v := 0) (pc2 := 28) hX d_To_clear_27 (by decide) rfl ?_
  refine fp_To_40 (pc2 := 31) hX (hK 4 0 0 (by decide) (by decide)) d_To_clear_28 rfl ?_
  refine sx_nm (fun σ6 e6 => ?_)
  replace h := h σ6 e6
  refine sx_aload_n (pc2 := 32) hX 0 d_To_clear_31 rfl rfl rfl ?_
  refine sx_iconst (v := 0) (pc2 := 33) hX d_To_clear_32 (by decide) rfl ?_
  refine fp_To_43 (pc2 := 36) hX (hK 4 0 0 (by decide) (by decide)) d_To_clear_33 rfl ?_
  refine sx_nm (fun σ7 e7 => ?_)
  replace h := h σ7 e7
  exact sx_vret hX hE h d_To_clear_36
theorem cl_To_46 {X : sx_T} {K : sx_K} {cc : ByteArray} {nL : Nat} {ret : Option FieldType} {rm : Room} {l : Launch} {pc pc2 : Nat} {lv : List (Nat × Value)} {st : List Value} {σ : sx_M} {τ : sx_L}  {Q : sx_M → Prop} (hX : sx_C X K cc nL "SensorTree$Tokens" ret rm l) (hK : kx_C K) (h : wp_To_clear  σ Q)  (hR : rm_To_clear.frames + 1 ≤ rm.frames ∧ 8 + (1 + 11) + rm_To_clear.locals ≤ rm.locals) (hst : (st.map fun v => v.category).sum ≤ 8) (hd : decode cc pc = .ok (.invokevirtual 46, 3)) (hpc : pc + 3 = pc2) (kk : ∀ (σ2 : sx_M) (τ2 : sx_L), Q σ2 → sx_G X K nL pc2 lv (st) (sx_H K σ2 τ2)) : sx_G X K nL pc lv (.ref (K.2.2.1 4 0 0) :: st) (sx_H K σ τ) :=
  sx_callVv (Q := fun σ _ => Q σ) (As := []) hX (c_To_clear hK  σ τ Q  h) (hK 4 0 0 (by decide) (by decide)) rfl rfl lk_186 ls_2 hy_To_clear lk_184 lk_149 lk_185 ⟨rfl, rfl⟩ hR hst rfl hd hpc kk
def y_Ta_byteAt : MethodName := ⟨"SensorTree$Tape", "byteAt", "(I)I"⟩
theorem hy_Ta_byteAt : y_Ta_byteAt.cls ≠ "java/lang/invoke/MethodHandle" ∧ y_Ta_byteAt.cls ≠ "java/lang/invoke/VarHandle" ∧ (parseMethodDescriptor y_Ta_byteAt.desc).map (fun d => d.parameters.length) = some 1 := by decide +kernel
theorem d_Ta_byteAt_0 : decode prog_9_method_3_code 0 = .ok (.iload_n 1, 1) := by decide +kernel
theorem d_Ta_byteAt_1 : decode prog_9_method_3_code 1 = .ok (.ifCond .lt 24, 3) := by decide +kernel
theorem d_Ta_byteAt_4 : decode prog_9_method_3_code 4 = .ok (.iload_n 1, 1) := by decide +kernel
theorem d_Ta_byteAt_5 : decode prog_9_method_3_code 5 = .ok (.aload_n 0, 1) := by decide +kernel
theorem d_Ta_byteAt_6 : decode prog_9_method_3_code 6 = .ok (.getfield 15, 3) := by decide +kernel
theorem d_Ta_byteAt_9 : decode prog_9_method_3_code 9 = .ok (.if_icmp .ge 16, 3) := by decide +kernel
theorem d_Ta_byteAt_12 : decode prog_9_method_3_code 12 = .ok (.aload_n 0, 1) := by decide +kernel
theorem d_Ta_byteAt_13 : decode prog_9_method_3_code 13 = .ok (.getfield 9, 3) := by decide +kernel
theorem d_Ta_byteAt_16 : decode prog_9_method_3_code 16 = .ok (.iload_n 1, 1) := by decide +kernel
theorem d_Ta_byteAt_17 : decode prog_9_method_3_code 17 = .ok (.baload, 1) := by decide +kernel
theorem d_Ta_byteAt_18 : decode prog_9_method_3_code 18 = .ok (.sipush 255, 3) := by decide +kernel
theorem d_Ta_byteAt_21 : decode prog_9_method_3_code 21 = .ok (.iand, 1) := by decide +kernel
theorem d_Ta_byteAt_22 : decode prog_9_method_3_code 22 = .ok (.goto 4, 3) := by decide +kernel
theorem d_Ta_byteAt_25 : decode prog_9_method_3_code 25 = .ok (.iconst (-1), 1) := by decide +kernel
theorem d_Ta_byteAt_26 : decode prog_9_method_3_code 26 = .ok (.ireturn, 1) := by decide +kernel
def wp_Ta_byteAt_b26   (Q : Int32 → sx_M → Prop) (w0 : Int32) (σ : sx_M) : Prop := Q w0 σ
def wp_Ta_byteAt_b25   (Q : Int32 → sx_M → Prop)  (σ : sx_M) : Prop := wp_Ta_byteAt_b26 Q (-1) σ
def wp_Ta_byteAt (x1 : Int32) (σ : sx_M) (Q : Int32 → sx_M → Prop) : Prop := if x1 < 0 then (wp_Ta_byteAt_b25 Q σ) else (if σ 1 0 0 1 ≤ x1 then (wp_Ta_byteAt_b25 Q σ) else (vp_in x1 2000 ∧ (wp_Ta_byteAt_b26 Q ((σ 2 0 0 x1.toNatClampNeg) &&& 255) σ)))
abbrev rm_Ta_byteAt : Room := { frames := 0, cells := 0, slots := 0, locals := 0 }
set_option maxRecDepth 100000 in
set_option maxHeartbeats 4000000 in
theorem g_Ta_byteAt_b26 {l : Launch} {K : sx_K} {X : sx_T}   {Q : Int32 → sx_M → Prop} (hX : sx_C X K prog_9_method_3_code 2 "SensorTree$Tape" (some .int) rm_Ta_byteAt l) (hK : kx_C K) (hE : sx_E X K (sx_Qi K (fun r σ _ => Q r σ)))  (w0 : Int32) (σ : sx_M) (τ : sx_L)  (h : wp_Ta_byteAt_b26 Q  w0 σ) : sx_G X K 2 26 [] [.int w0] (sx_H K σ τ) := by
  unfold wp_Ta_byteAt_b26 at h
  exact sx_iret hX hE h d_Ta_byteAt_26
set_option maxRecDepth 100000 in
set_option maxHeartbeats 4000000 in
theorem g_Ta_byteAt_b25 {l : Launch} {K : sx_K} {X : sx_T}   {Q : Int32 → sx_M → Prop} (hX : sx_C X K prog_9_method_3_code 2 "SensorTree$Tape" (some .int) rm_Ta_byteAt l) (hK : kx_C K) (hE : sx_E X K (sx_Qi K (fun r σ _ => Q r σ)))   (σ : sx_M) (τ : sx_L)  (h : wp_Ta_byteAt_b25 Q  σ) : sx_G X K 2 25 [] [] (sx_H K σ τ) := by
  unfold wp_Ta_byteAt_b25 at h
  refine sx_iconst (v := (-1)) (pc2 := 26) hX d_Ta_byteAt_25 (by decide) rfl ?_
  exact g_Ta_byteAt_b26 hX hK hE   (-1) _ _ h
set_option maxRecDepth 100000 in
set_option maxHeartbeats 4000000 in
theorem c_Ta_byteAt {l : Launch} {K : sx_K} (hK : kx_C K) (x1 : Int32) (σ : sx_M) (τ : sx_L) (Q : Int32 → sx_M → Prop)  (h : wp_Ta_byteAt x1 σ Q) : Met l y_Ta_byteAt (sx_wd y_Ta_byteAt prog_9_method_3_code 2 (some .int)) rm_Ta_byteAt (sx_Pc K [.ref (K.2.2.1 1 0 0), .int x1] σ τ) (sx_Qi K (fun r σ _ => Q r σ)) 0 0 (sx_A K) := by
  refine sx_met (by decide) (Nat.le_of_ble_eq_true rfl) (fun X hX hE => ?_)
  replace hX : sx_C X K prog_9_method_3_code 2 "SensorTree$Tape" (some .int) rm_Ta_byteAt l := hX
  show sx_G X K 2 0 [(0, .ref (K.2.2.1 1 0 0)), (1, .int x1)] [] (sx_H K σ τ)
  unfold wp_Ta_byteAt at h
  refine sx_iload_n (pc2 := 1) hX 1 d_Ta_byteAt_0 rfl rfl rfl ?_
  refine sx_if_lt (tgt := 25) (pc2 := 4) hX d_Ta_byteAt_1 (by decide) rfl (fun hc1 => ?_) (fun hc1 => ?_)
  · replace h := sx_t h hc1
    refine sx_sub [] [] rfl ?_
    exact g_Ta_byteAt_b25 hX hK hE   _ _ h
  · replace h := sx_f h hc1
    refine sx_iload_n (pc2 := 5) hX 1 d_Ta_byteAt_4 rfl rfl rfl ?_
    refine sx_aload_n (pc2 := 6) hX 0 d_Ta_byteAt_5 rfl rfl rfl ?_
    refine fg_Ta_15 (pc2 := 9) hX (hK 1 0 0 (by decide) (by decide)) d_Ta_byteAt_6 rfl ?_
    refine sx_icmp_ge (tgt := 25) (pc2 := 12) hX d_Ta_byteAt_9 (by decide) rfl (fun hc2 => ?_) (fun hc2 => ?_)
    · replace h := sx_t h hc2
      refine sx_sub [] [] rfl ?_
      exact g_Ta_byteAt_b25 hX hK hE   _ _ h
    · replace h := sx_f h hc2
      refine sx_aload_n (pc2 := 13) hX 0 d_Ta_byteAt_12 rfl rfl rfl ?_
      refine fg_Ta_9 (pc2 := 16) hX (hK 1 0 0 (by decide) (by decide)) d_Ta_byteAt_13 rfl ?_
      refine sx_iload_n (pc2 := 17) hX 1 d_Ta_byteAt_16 rfl rfl rfl ?_
      obtain ⟨hc3, h⟩ := h
      refine sx_bald (pc2 := 18) hX (hK 2 0 0 (by decide) (by decide)) rfl hc3 d_Ta_byteAt_17 rfl ?_
      refine sx_sipush (v := 255) (pc2 := 21) hX d_Ta_byteAt_18 (by decide) rfl ?_
      refine sx_iand (pc2 := 22) hX d_Ta_byteAt_21 rfl ?_
      refine sx_goto (tgt := 26) hX d_Ta_byteAt_22 (by decide) ?_
      refine sx_sub [] [] rfl ?_
      exact g_Ta_byteAt_b26 hX hK hE   ((σ 2 0 0 x1.toNatClampNeg) &&& 255) _ _ h
theorem cl_Ta_19 {X : sx_T} {K : sx_K} {cc : ByteArray} {nL : Nat} {ret : Option FieldType} {rm : Room} {l : Launch} {pc pc2 : Nat} {lv : List (Nat × Value)} {st : List Value} {σ : sx_M} {τ : sx_L} {x1 : Int32} {Q : Int32 → sx_M → Prop} (hX : sx_C X K cc nL "SensorTree$Tape" ret rm l) (hK : kx_C K) (h : wp_Ta_byteAt x1 σ Q)  (hR : rm_Ta_byteAt.frames + 1 ≤ rm.frames ∧ 8 + (2 + 11) + rm_Ta_byteAt.locals ≤ rm.locals) (hst : (st.map fun v => v.category).sum ≤ 8) (hd : decode cc pc = .ok (.invokevirtual 19, 3)) (hpc : pc + 3 = pc2) (kk : ∀ (r : Int32) (σ2 : sx_M) (τ2 : sx_L), Q r σ2 → sx_G X K nL pc2 lv (.int r :: st) (sx_H K σ2 τ2)) : sx_G X K nL pc lv (.int x1 :: .ref (K.2.2.1 1 0 0) :: st) (sx_H K σ τ) :=
  sx_callVi (Q := fun r σ _ => Q r σ) (As := [.int x1]) hX (c_Ta_byteAt hK x1 σ τ Q  h) (hK 1 0 0 (by decide) (by decide)) rfl rfl lk_134 lk_135 hy_Ta_byteAt lk_132 lk_131 lk_133 ⟨rfl, rfl⟩ hR hst rfl hd hpc kk
theorem cl_To_114 {X : sx_T} {K : sx_K} {cc : ByteArray} {nL : Nat} {ret : Option FieldType} {rm : Room} {l : Launch} {pc pc2 : Nat} {lv : List (Nat × Value)} {st : List Value} {σ : sx_M} {τ : sx_L} {x1 : Int32} {Q : Int32 → sx_M → Prop} (hX : sx_C X K cc nL "SensorTree$Tokens" ret rm l) (hK : kx_C K) (h : wp_Ta_byteAt x1 σ Q)  (hR : rm_Ta_byteAt.frames + 1 ≤ rm.frames ∧ 8 + (2 + 11) + rm_Ta_byteAt.locals ≤ rm.locals) (hst : (st.map fun v => v.category).sum ≤ 8) (hd : decode cc pc = .ok (.invokevirtual 114, 3)) (hpc : pc + 3 = pc2) (kk : ∀ (r : Int32) (σ2 : sx_M) (τ2 : sx_L), Q r σ2 → sx_G X K nL pc2 lv (.int r :: st) (sx_H K σ2 τ2)) : sx_G X K nL pc lv (.int x1 :: .ref (K.2.2.1 1 0 0) :: st) (sx_H K σ τ) :=
  sx_callVi (Q := fun r σ _ => Q r σ) (As := [.int x1]) hX (c_Ta_byteAt hK x1 σ τ Q  h) (hK 1 0 0 (by decide) (by decide)) rfl rfl lk_134 lk_135 hy_Ta_byteAt lk_132 lk_131 lk_148 ⟨rfl, rfl⟩ hR hst rfl hd hpc kk
def y_Ta_isBlank : MethodName := ⟨"SensorTree$Tape", "isBlank", "(I)Z"⟩
theorem hy_Ta_isBlank : y_Ta_isBlank.cls ≠ "java/lang/invoke/MethodHandle" ∧ y_Ta_isBlank.cls ≠ "java/lang/invoke/VarHandle" ∧ (parseMethodDescriptor y_Ta_isBlank.desc).map (fun d => d.parameters.length) = some 1 := by decide +kernel
theorem d_Ta_isBlank_0 : decode prog_9_method_6_code 0 = .ok (.aload_n 0, 1) := by decide +kernel
theorem d_Ta_isBlank_1 : decode prog_9_method_6_code 1 = .ok (.iload_n 1, 1) := by decide +kernel
theorem d_Ta_isBlank_2 : decode prog_9_method_6_code 2 = .ok (.invokevirtual 19, 3) := by decide +kernel
theorem d_Ta_isBlank_5 : decode prog_9_method_6_code 5 = .ok (.istore_n 2, 1) := by decide +kernel
theorem d_Ta_isBlank_6 : decode prog_9_method_6_code 6 = .ok (.iload_n 2, 1) := by decide +kernel
theorem d_Ta_isBlank_7 : decode prog_9_method_6_code 7 = .ok (.bipush 9, 2) := by decide +kernel
theorem d_Ta_isBlank_9 : decode prog_9_method_6_code 9 = .ok (.if_icmp .eq 21, 3) := by decide +kernel
theorem d_Ta_isBlank_12 : decode prog_9_method_6_code 12 = .ok (.iload_n 2, 1) := by decide +kernel
theorem d_Ta_isBlank_13 : decode prog_9_method_6_code 13 = .ok (.bipush 10, 2) := by decide +kernel
theorem d_Ta_isBlank_15 : decode prog_9_method_6_code 15 = .ok (.if_icmp .eq 15, 3) := by decide +kernel
theorem d_Ta_isBlank_18 : decode prog_9_method_6_code 18 = .ok (.iload_n 2, 1) := by decide +kernel
theorem d_Ta_isBlank_19 : decode prog_9_method_6_code 19 = .ok (.bipush 13, 2) := by decide +kernel
theorem d_Ta_isBlank_21 : decode prog_9_method_6_code 21 = .ok (.if_icmp .eq 9, 3) := by decide +kernel
theorem d_Ta_isBlank_24 : decode prog_9_method_6_code 24 = .ok (.iload_n 2, 1) := by decide +kernel
theorem d_Ta_isBlank_25 : decode prog_9_method_6_code 25 = .ok (.bipush 32, 2) := by decide +kernel
theorem d_Ta_isBlank_27 : decode prog_9_method_6_code 27 = .ok (.if_icmp .ne 7, 3) := by decide +kernel
theorem d_Ta_isBlank_30 : decode prog_9_method_6_code 30 = .ok (.iconst 1, 1) := by decide +kernel
theorem d_Ta_isBlank_31 : decode prog_9_method_6_code 31 = .ok (.goto 4, 3) := by decide +kernel
theorem d_Ta_isBlank_34 : decode prog_9_method_6_code 34 = .ok (.iconst 0, 1) := by decide +kernel
theorem d_Ta_isBlank_35 : decode prog_9_method_6_code 35 = .ok (.ireturn, 1) := by decide +kernel
def wp_Ta_isBlank_b35   (Q : Int32 → sx_M → Prop) (w0 : Int32) (σ : sx_M) : Prop := (w0 = 0 ∨ w0 = 1) ∧ (Q w0 σ)
def wp_Ta_isBlank_b30   (Q : Int32 → sx_M → Prop)  (σ : sx_M) : Prop := wp_Ta_isBlank_b35 Q 1 σ
def wp_Ta_isBlank (x1 : Int32) (σ : sx_M) (Q : Int32 → sx_M → Prop) : Prop := wp_Ta_byteAt x1 σ (fun r2 σ2 => if r2 = 9 then (wp_Ta_isBlank_b30 Q σ2) else (if r2 = 10 then (wp_Ta_isBlank_b30 Q σ2) else (if r2 = 13 then (wp_Ta_isBlank_b30 Q σ2) else (if r2 = 32 then (wp_Ta_isBlank_b30 Q σ2) else (wp_Ta_isBlank_b35 Q 0 σ2)))))
abbrev rm_Ta_isBlank : Room := { frames := 1, cells := 0, slots := 0, locals := 21 }
set_option maxRecDepth 100000 in
set_option maxHeartbeats 4000000 in
theorem g_Ta_isBlank_b35 {l : Launch} {K : sx_K} {X : sx_T}   {Q : Int32 → sx_M → Prop} (hX : sx_C X K prog_9_method_6_code 3 "SensorTree$Tape" (some .boolean) rm_Ta_isBlank l) (hK : kx_C K) (hE : sx_E X K (sx_Qi K (fun r σ _ => Q r σ)))  (w0 : Int32) (σ : sx_M) (τ : sx_L)  (h : wp_Ta_isBlank_b35 Q  w0 σ) : sx_G X K 3 35 [] [.int w0] (sx_H K σ τ) := by
  unfold wp_Ta_isBlank_b35 at h
  obtain ⟨hc1, h⟩ := h
  exact sx_zret hX hE hc1 h d_Ta_isBlank_35
set_option maxRecDepth 100000 in
set_option maxHeartbeats 4000000 in
theorem g_Ta_isBlank_b30 {l : Launch} {K : sx_K} {X : sx_T}   {Q : Int32 → sx_M → Prop} (hX : sx_C X K prog_9_method_6_code 3 "SensorTree$Tape" (some .boolean) rm_Ta_isBlank l) (hK : kx_C K) (hE : sx_E X K (sx_Qi K (fun r σ _ => Q r σ)))   (σ : sx_M) (τ : sx_L)  (h : wp_Ta_isBlank_b30 Q  σ) : sx_G X K 3 30 [] [] (sx_H K σ τ) := by
  unfold wp_Ta_isBlank_b30 at h
  refine sx_iconst (v := 1) (pc2 := 31) hX d_Ta_isBlank_30 (by decide) rfl ?_
  refine sx_goto (tgt := 35) hX d_Ta_isBlank_31 (by decide) ?_
  exact g_Ta_isBlank_b35 hX hK hE   1 _ _ h
set_option maxRecDepth 100000 in
set_option maxHeartbeats 4000000 in
theorem c_Ta_isBlank {l : Launch} {K : sx_K} (hK : kx_C K) (x1 : Int32) (σ : sx_M) (τ : sx_L) (Q : Int32 → sx_M → Prop)  (h : wp_Ta_isBlank x1 σ Q) : Met l y_Ta_isBlank (sx_wd y_Ta_isBlank prog_9_method_6_code 3 (some .boolean)) rm_Ta_isBlank (sx_Pc K [.ref (K.2.2.1 1 0 0), .int x1] σ τ) (sx_Qi K (fun r σ _ => Q r σ)) 0 0 (sx_A K) := by
  refine sx_met (by decide) (Nat.le_of_ble_eq_true rfl) (fun X hX hE => ?_)
  replace hX : sx_C X K prog_9_method_6_code 3 "SensorTree$Tape" (some .boolean) rm_Ta_isBlank l := hX
  show sx_G X K 3 0 [(0, .ref (K.2.2.1 1 0 0)), (1, .int x1)] [] (sx_H K σ τ)
  unfold wp_Ta_isBlank at h
  refine sx_aload_n (pc2 := 1) hX 0 d_Ta_isBlank_0 rfl rfl rfl ?_
  refine sx_iload_n (pc2 := 2) hX 1 d_Ta_isBlank_1 rfl rfl rfl ?_
  refine cl_Ta_19 (pc2 := 5) hX hK h  ⟨Nat.le_of_ble_eq_true rfl, Nat.le_of_ble_eq_true rfl⟩ (Nat.le_of_ble_eq_true rfl) d_Ta_isBlank_2 rfl (fun r2 σ2 τ2 h => ?_)
  refine sx_istore_n (pc2 := 6) hX _ [(0, .ref (K.2.2.1 1 0 0)), (1, .int x1), (2, .int r2)] [1, 2, 0] d_Ta_isBlank_5 rfl (by decide) rfl rfl rfl ?_
  refine sx_iload_n (pc2 := 7) hX 2 d_Ta_isBlank_6 rfl rfl rfl ?_
  refine sx_bipush (v := 9) (pc2 := 9) hX d_Ta_isBlank_7 (by decide) rfl ?_
  refine sx_icmp_eq (tgt := 30) (pc2 := 12) hX d_Ta_isBlank_9 (by decide) rfl (fun hc3 => ?_) (fun hc3 => ?_)
  · replace h := sx_t h hc3
    refine sx_sub [] [] rfl ?_
    exact g_Ta_isBlank_b30 hX hK hE   _ _ h
  · replace h := sx_f h hc3
    refine sx_iload_n (pc2 := 13) hX 2 d_Ta_isBlank_12 rfl rfl rfl ?_
    refine sx_bipush (v := 10) (pc2 := 15) hX d_Ta_isBlank_13 (by decide) rfl ?_
    refine sx_icmp_eq (tgt := 30) (pc2 := 18) hX d_Ta_isBlank_15 (by decide) rfl (fun hc4 => ?_) (fun hc4 => ?_)
    · replace h := sx_t h hc4
      refine sx_sub [] [] rfl ?_
      exact g_Ta_isBlank_b30 hX hK hE   _ _ h
    · replace h := sx_f h hc4
      refine sx_iload_n (pc2 := 19) hX 2 d_Ta_isBlank_18 rfl rfl rfl ?_
      refine sx_bipush (v := 13) (pc2 := 21) hX d_Ta_isBlank_19 (by decide) rfl ?_
      refine sx_icmp_eq (tgt := 30) (pc2 := 24) hX d_Ta_isBlank_21 (by decide) rfl (fun hc5 => ?_) (fun hc5 => ?_)
      · replace h := sx_t h hc5
        refine sx_sub [] [] rfl ?_
        exact g_Ta_isBlank_b30 hX hK hE   _ _ h
      · replace h := sx_f h hc5
        refine sx_iload_n (pc2 := 25) hX 2 d_Ta_isBlank_24 rfl rfl rfl ?_
        refine sx_bipush (v := 32) (pc2 := 27) hX d_Ta_isBlank_25 (by decide) rfl ?_
        refine sx_icmp_ne (tgt := 34) (pc2 := 30) hX d_Ta_isBlank_27 (by decide) rfl (fun hc6 => ?_) (fun hc6 => ?_)
        · replace h := sx_f h hc6
          refine sx_iconst (v := 0) (pc2 := 35) hX d_Ta_isBlank_34 (by decide) rfl ?_
          refine sx_sub [] [] rfl ?_
          exact g_Ta_isBlank_b35 hX hK hE   0 _ _ h
        · replace h := sx_t h hc6
          refine sx_sub [] [] rfl ?_
          exact g_Ta_isBlank_b30 hX hK hE   _ _ h
theorem cl_Ta_23 {X : sx_T} {K : sx_K} {cc : ByteArray} {nL : Nat} {ret : Option FieldType} {rm : Room} {l : Launch} {pc pc2 : Nat} {lv : List (Nat × Value)} {st : List Value} {σ : sx_M} {τ : sx_L} {x1 : Int32} {Q : Int32 → sx_M → Prop} (hX : sx_C X K cc nL "SensorTree$Tape" ret rm l) (hK : kx_C K) (h : wp_Ta_isBlank x1 σ Q)  (hR : rm_Ta_isBlank.frames + 1 ≤ rm.frames ∧ 8 + (3 + 11) + rm_Ta_isBlank.locals ≤ rm.locals) (hst : (st.map fun v => v.category).sum ≤ 8) (hd : decode cc pc = .ok (.invokevirtual 23, 3)) (hpc : pc + 3 = pc2) (kk : ∀ (r : Int32) (σ2 : sx_M) (τ2 : sx_L), Q r σ2 → sx_G X K nL pc2 lv (.int r :: st) (sx_H K σ2 τ2)) : sx_G X K nL pc lv (.int x1 :: .ref (K.2.2.1 1 0 0) :: st) (sx_H K σ τ) :=
  sx_callVi (Q := fun r σ _ => Q r σ) (As := [.int x1]) hX (c_Ta_isBlank hK x1 σ τ Q  h) (hK 1 0 0 (by decide) (by decide)) rfl rfl lk_138 lk_139 hy_Ta_isBlank lk_136 lk_131 lk_137 ⟨rfl, rfl⟩ hR hst rfl hd hpc kk
def y_Ta_pastBlanks : MethodName := ⟨"SensorTree$Tape", "pastBlanks", "(I)I"⟩
theorem hy_Ta_pastBlanks : y_Ta_pastBlanks.cls ≠ "java/lang/invoke/MethodHandle" ∧ y_Ta_pastBlanks.cls ≠ "java/lang/invoke/VarHandle" ∧ (parseMethodDescriptor y_Ta_pastBlanks.desc).map (fun d => d.parameters.length) = some 1 := by decide +kernel
theorem d_Ta_pastBlanks_0 : decode prog_9_method_7_code 0 = .ok (.iload_n 1, 1) := by decide +kernel
theorem d_Ta_pastBlanks_1 : decode prog_9_method_7_code 1 = .ok (.istore_n 2, 1) := by decide +kernel
theorem d_Ta_pastBlanks_2 : decode prog_9_method_7_code 2 = .ok (.iload_n 2, 1) := by decide +kernel
theorem d_Ta_pastBlanks_3 : decode prog_9_method_7_code 3 = .ok (.aload_n 0, 1) := by decide +kernel
theorem d_Ta_pastBlanks_4 : decode prog_9_method_7_code 4 = .ok (.getfield 15, 3) := by decide +kernel
theorem d_Ta_pastBlanks_7 : decode prog_9_method_7_code 7 = .ok (.if_icmp .ge 17, 3) := by decide +kernel
theorem d_Ta_pastBlanks_10 : decode prog_9_method_7_code 10 = .ok (.aload_n 0, 1) := by decide +kernel
theorem d_Ta_pastBlanks_11 : decode prog_9_method_7_code 11 = .ok (.iload_n 2, 1) := by decide +kernel
theorem d_Ta_pastBlanks_12 : decode prog_9_method_7_code 12 = .ok (.invokevirtual 23, 3) := by decide +kernel
theorem d_Ta_pastBlanks_15 : decode prog_9_method_7_code 15 = .ok (.ifCond .eq 9, 3) := by decide +kernel
theorem d_Ta_pastBlanks_18 : decode prog_9_method_7_code 18 = .ok (.iinc 2 1, 3) := by decide +kernel
theorem d_Ta_pastBlanks_21 : decode prog_9_method_7_code 21 = .ok (.goto (-19), 3) := by decide +kernel
theorem d_Ta_pastBlanks_24 : decode prog_9_method_7_code 24 = .ok (.iload_n 2, 1) := by decide +kernel
theorem d_Ta_pastBlanks_25 : decode prog_9_method_7_code 25 = .ok (.ireturn, 1) := by decide +kernel
def wp_Ta_pastBlanks_b24   (Q : Int32 → sx_M → Prop) (v2 : Int32) (σ : sx_M) : Prop := Q v2 σ
def wp_Ta_pastBlanks_b2   (Q : Int32 → sx_M → Prop) : Nat → Int32 → sx_M → Prop
  | 0, _, _ => False
  | f + 1, v2, σ => if σ 1 0 0 1 ≤ v2 then (wp_Ta_pastBlanks_b24 Q v2 σ) else (wp_Ta_isBlank v2 σ (fun r2 σ2 => if r2 = 0 then (wp_Ta_pastBlanks_b24 Q v2 σ2) else (wp_Ta_pastBlanks_b2 Q f (v2 + 1) σ2)))
def wp_Ta_pastBlanks (x1 : Int32) (σ : sx_M) (Q : Int32 → sx_M → Prop) : Prop := ∃ f2, wp_Ta_pastBlanks_b2 Q f2 x1 σ
abbrev rm_Ta_pastBlanks : Room := { frames := 2, cells := 0, slots := 0, locals := 43 }
set_option maxRecDepth 100000 in
set_option maxHeartbeats 4000000 in
theorem g_Ta_pastBlanks_b24 {l : Launch} {K : sx_K} {X : sx_T}   {Q : Int32 → sx_M → Prop} (hX : sx_C X K prog_9_method_7_code 3 "SensorTree$Tape" (some .int) rm_Ta_pastBlanks l) (hK : kx_C K) (hE : sx_E X K (sx_Qi K (fun r σ _ => Q r σ)))  (v2 : Int32) (σ : sx_M) (τ : sx_L)  (h : wp_Ta_pastBlanks_b24 Q  v2 σ) : sx_G X K 3 24 [(2, .int v2)] [] (sx_H K σ τ) := by
  unfold wp_Ta_pastBlanks_b24 at h
  refine sx_iload_n (pc2 := 25) hX 0 d_Ta_pastBlanks_24 rfl rfl rfl ?_
  exact sx_iret hX hE h d_Ta_pastBlanks_25
set_option maxRecDepth 100000 in
set_option maxHeartbeats 4000000 in
theorem g_Ta_pastBlanks_b2 {l : Launch} {K : sx_K} {X : sx_T}   {Q : Int32 → sx_M → Prop} (hX : sx_C X K prog_9_method_7_code 3 "SensorTree$Tape" (some .int) rm_Ta_pastBlanks l) (hK : kx_C K) (hE : sx_E X K (sx_Qi K (fun r σ _ => Q r σ)))  : ∀ (f : Nat) (v2 : Int32) (σ : sx_M) (τ : sx_L) , wp_Ta_pastBlanks_b2 Q f v2 σ → sx_G X K 3 2 [(0, .ref (K.2.2.1 1 0 0)), (2, .int v2)] [] (sx_H K σ τ) := by
  intro f
  induction f with
  | zero => intro v2 σ τ h; exact (show False from h).elim
  | succ f ih =>
    intro v2 σ τ h
    rw [wp_Ta_pastBlanks_b2] at h
    refine sx_iload_n (pc2 := 3) hX 1 d_Ta_pastBlanks_2 rfl rfl rfl ?_
    refine sx_aload_n (pc2 := 4) hX 0 d_Ta_pastBlanks_3 rfl rfl rfl ?_
    refine fg_Ta_15 (pc2 := 7) hX (hK 1 0 0 (by decide) (by decide)) d_Ta_pastBlanks_4 rfl ?_
    refine sx_icmp_ge (tgt := 24) (pc2 := 10) hX d_Ta_pastBlanks_7 (by decide) rfl (fun hc1 => ?_) (fun hc1 => ?_)
    · replace h := sx_t h hc1
      refine sx_sub [(2, .int v2)] [1] rfl ?_
      exact g_Ta_pastBlanks_b24 hX hK hE   v2 _ _ h
    · replace h := sx_f h hc1
      refine sx_aload_n (pc2 := 11) hX 0 d_Ta_pastBlanks_10 rfl rfl rfl ?_
      refine sx_iload_n (pc2 := 12) hX 1 d_Ta_pastBlanks_11 rfl rfl rfl ?_
      refine cl_Ta_23 (pc2 := 15) hX hK h  ⟨Nat.le_of_ble_eq_true rfl, Nat.le_of_ble_eq_true rfl⟩ (Nat.le_of_ble_eq_true rfl) d_Ta_pastBlanks_12 rfl (fun r2 σ2 τ2 h => ?_)
      refine sx_if_eq (tgt := 24) (pc2 := 18) hX d_Ta_pastBlanks_15 (by decide) rfl (fun hc3 => ?_) (fun hc3 => ?_)
      · replace h := sx_t h hc3
        refine sx_sub [(2, .int v2)] [1] rfl ?_
        exact g_Ta_pastBlanks_b24 hX hK hE   v2 _ _ h
      · replace h := sx_f h hc3
        refine sx_iinc (pc2 := 21) hX 1 _ [(0, .ref (K.2.2.1 1 0 0)), (2, .int (v2 + 1))] [1, 0] d_Ta_pastBlanks_18 rfl (v2 + 1) rfl (by decide) rfl rfl rfl ?_
        refine sx_goto (tgt := 2) hX d_Ta_pastBlanks_21 (by decide) ?_
        exact ih (v2 + 1) _ _ h
set_option maxRecDepth 100000 in
set_option maxHeartbeats 4000000 in
theorem c_Ta_pastBlanks {l : Launch} {K : sx_K} (hK : kx_C K) (x1 : Int32) (σ : sx_M) (τ : sx_L) (Q : Int32 → sx_M → Prop)  (h : wp_Ta_pastBlanks x1 σ Q) : Met l y_Ta_pastBlanks (sx_wd y_Ta_pastBlanks prog_9_method_7_code 3 (some .int)) rm_Ta_pastBlanks (sx_Pc K [.ref (K.2.2.1 1 0 0), .int x1] σ τ) (sx_Qi K (fun r σ _ => Q r σ)) 0 0 (sx_A K) := by
  refine sx_met (by decide) (Nat.le_of_ble_eq_true rfl) (fun X hX hE => ?_)
  replace hX : sx_C X K prog_9_method_7_code 3 "SensorTree$Tape" (some .int) rm_Ta_pastBlanks l := hX
  show sx_G X K 3 0 [(0, .ref (K.2.2.1 1 0 0)), (1, .int x1)] [] (sx_H K σ τ)
  unfold wp_Ta_pastBlanks at h
  refine sx_iload_n (pc2 := 1) hX 1 d_Ta_pastBlanks_0 rfl rfl rfl ?_
  refine sx_istore_n (pc2 := 2) hX _ [(0, .ref (K.2.2.1 1 0 0)), (1, .int x1), (2, .int x1)] [1, 2, 0] d_Ta_pastBlanks_1 rfl (by decide) rfl rfl rfl ?_
  refine sx_sub [(0, .ref (K.2.2.1 1 0 0)), (2, .int x1)] [0, 2] rfl ?_
  obtain ⟨f2, h⟩ := h
  exact g_Ta_pastBlanks_b2 hX hK hE   f2 x1 _ _ h
theorem cl_To_49 {X : sx_T} {K : sx_K} {cc : ByteArray} {nL : Nat} {ret : Option FieldType} {rm : Room} {l : Launch} {pc pc2 : Nat} {lv : List (Nat × Value)} {st : List Value} {σ : sx_M} {τ : sx_L} {x1 : Int32} {Q : Int32 → sx_M → Prop} (hX : sx_C X K cc nL "SensorTree$Tokens" ret rm l) (hK : kx_C K) (h : wp_Ta_pastBlanks x1 σ Q)  (hR : rm_Ta_pastBlanks.frames + 1 ≤ rm.frames ∧ 8 + (3 + 11) + rm_Ta_pastBlanks.locals ≤ rm.locals) (hst : (st.map fun v => v.category).sum ≤ 8) (hd : decode cc pc = .ok (.invokevirtual 49, 3)) (hpc : pc + 3 = pc2) (kk : ∀ (r : Int32) (σ2 : sx_M) (τ2 : sx_L), Q r σ2 → sx_G X K nL pc2 lv (.int r :: st) (sx_H K σ2 τ2)) : sx_G X K nL pc lv (.int x1 :: .ref (K.2.2.1 1 0 0) :: st) (sx_H K σ τ) :=
  sx_callVi (Q := fun r σ _ => Q r σ) (As := [.int x1]) hX (c_Ta_pastBlanks hK x1 σ τ Q  h) (hK 1 0 0 (by decide) (by decide)) rfl rfl lk_175 lk_176 hy_Ta_pastBlanks lk_173 lk_131 lk_174 ⟨rfl, rfl⟩ hR hst rfl hd hpc kk
def y_Ta_isLetter : MethodName := ⟨"SensorTree$Tape", "isLetter", "(I)Z"⟩
theorem hy_Ta_isLetter : y_Ta_isLetter.cls ≠ "java/lang/invoke/MethodHandle" ∧ y_Ta_isLetter.cls ≠ "java/lang/invoke/VarHandle" ∧ (parseMethodDescriptor y_Ta_isLetter.desc).map (fun d => d.parameters.length) = some 1 := by decide +kernel
theorem d_Ta_isLetter_0 : decode prog_9_method_4_code 0 = .ok (.aload_n 0, 1) := by decide +kernel
theorem d_Ta_isLetter_1 : decode prog_9_method_4_code 1 = .ok (.iload_n 1, 1) := by decide +kernel
theorem d_Ta_isLetter_2 : decode prog_9_method_4_code 2 = .ok (.invokevirtual 19, 3) := by decide +kernel
theorem d_Ta_isLetter_5 : decode prog_9_method_4_code 5 = .ok (.bipush 97, 2) := by decide +kernel
theorem d_Ta_isLetter_7 : decode prog_9_method_4_code 7 = .ok (.if_icmp .lt 17, 3) := by decide +kernel
theorem d_Ta_isLetter_10 : decode prog_9_method_4_code 10 = .ok (.aload_n 0, 1) := by decide +kernel
theorem d_Ta_isLetter_11 : decode prog_9_method_4_code 11 = .ok (.iload_n 1, 1) := by decide +kernel
theorem d_Ta_isLetter_12 : decode prog_9_method_4_code 12 = .ok (.invokevirtual 19, 3) := by decide +kernel
theorem d_Ta_isLetter_15 : decode prog_9_method_4_code 15 = .ok (.bipush 122, 2) := by decide +kernel
theorem d_Ta_isLetter_17 : decode prog_9_method_4_code 17 = .ok (.if_icmp .gt 7, 3) := by decide +kernel
theorem d_Ta_isLetter_20 : decode prog_9_method_4_code 20 = .ok (.iconst 1, 1) := by decide +kernel
theorem d_Ta_isLetter_21 : decode prog_9_method_4_code 21 = .ok (.goto 4, 3) := by decide +kernel
theorem d_Ta_isLetter_24 : decode prog_9_method_4_code 24 = .ok (.iconst 0, 1) := by decide +kernel
theorem d_Ta_isLetter_25 : decode prog_9_method_4_code 25 = .ok (.ireturn, 1) := by decide +kernel
def wp_Ta_isLetter_b25   (Q : Int32 → sx_M → Prop) (w0 : Int32) (σ : sx_M) : Prop := (w0 = 0 ∨ w0 = 1) ∧ (Q w0 σ)
def wp_Ta_isLetter_b24   (Q : Int32 → sx_M → Prop)  (σ : sx_M) : Prop := wp_Ta_isLetter_b25 Q 0 σ
def wp_Ta_isLetter (x1 : Int32) (σ : sx_M) (Q : Int32 → sx_M → Prop) : Prop := wp_Ta_byteAt x1 σ (fun r2 σ2 => if r2 < 97 then (wp_Ta_isLetter_b24 Q σ2) else (wp_Ta_byteAt x1 σ2 (fun r4 σ4 => if 122 < r4 then (wp_Ta_isLetter_b24 Q σ4) else (wp_Ta_isLetter_b25 Q 1 σ4))))
abbrev rm_Ta_isLetter : Room := { frames := 1, cells := 0, slots := 0, locals := 21 }
set_option maxRecDepth 100000 in
set_option maxHeartbeats 4000000 in
theorem g_Ta_isLetter_b25 {l : Launch} {K : sx_K} {X : sx_T}   {Q : Int32 → sx_M → Prop} (hX : sx_C X K prog_9_method_4_code 2 "SensorTree$Tape" (some .boolean) rm_Ta_isLetter l) (hK : kx_C K) (hE : sx_E X K (sx_Qi K (fun r σ _ => Q r σ)))  (w0 : Int32) (σ : sx_M) (τ : sx_L)  (h : wp_Ta_isLetter_b25 Q  w0 σ) : sx_G X K 2 25 [] [.int w0] (sx_H K σ τ) := by
  unfold wp_Ta_isLetter_b25 at h
  obtain ⟨hc1, h⟩ := h
  exact sx_zret hX hE hc1 h d_Ta_isLetter_25
set_option maxRecDepth 100000 in
set_option maxHeartbeats 4000000 in
theorem g_Ta_isLetter_b24 {l : Launch} {K : sx_K} {X : sx_T}   {Q : Int32 → sx_M → Prop} (hX : sx_C X K prog_9_method_4_code 2 "SensorTree$Tape" (some .boolean) rm_Ta_isLetter l) (hK : kx_C K) (hE : sx_E X K (sx_Qi K (fun r σ _ => Q r σ)))   (σ : sx_M) (τ : sx_L)  (h : wp_Ta_isLetter_b24 Q  σ) : sx_G X K 2 24 [] [] (sx_H K σ τ) := by
  unfold wp_Ta_isLetter_b24 at h
  refine sx_iconst (v := 0) (pc2 := 25) hX d_Ta_isLetter_24 (by decide) rfl ?_
  exact g_Ta_isLetter_b25 hX hK hE   0 _ _ h
set_option maxRecDepth 100000 in
set_option maxHeartbeats 4000000 in
theorem c_Ta_isLetter {l : Launch} {K : sx_K} (hK : kx_C K) (x1 : Int32) (σ : sx_M) (τ : sx_L) (Q : Int32 → sx_M → Prop)  (h : wp_Ta_isLetter x1 σ Q) : Met l y_Ta_isLetter (sx_wd y_Ta_isLetter prog_9_method_4_code 2 (some .boolean)) rm_Ta_isLetter (sx_Pc K [.ref (K.2.2.1 1 0 0), .int x1] σ τ) (sx_Qi K (fun r σ _ => Q r σ)) 0 0 (sx_A K) := by
  refine sx_met (by decide) (Nat.le_of_ble_eq_true rfl) (fun X hX hE => ?_)
  replace hX : sx_C X K prog_9_method_4_code 2 "SensorTree$Tape" (some .boolean) rm_Ta_isLetter l := hX
  show sx_G X K 2 0 [(0, .ref (K.2.2.1 1 0 0)), (1, .int x1)] [] (sx_H K σ τ)
  unfold wp_Ta_isLetter at h
  refine sx_aload_n (pc2 := 1) hX 0 d_Ta_isLetter_0 rfl rfl rfl ?_
  refine sx_iload_n (pc2 := 2) hX 1 d_Ta_isLetter_1 rfl rfl rfl ?_
  refine cl_Ta_19 (pc2 := 5) hX hK h  ⟨Nat.le_of_ble_eq_true rfl, Nat.le_of_ble_eq_true rfl⟩ (Nat.le_of_ble_eq_true rfl) d_Ta_isLetter_2 rfl (fun r2 σ2 τ2 h => ?_)
  refine sx_bipush (v := 97) (pc2 := 7) hX d_Ta_isLetter_5 (by decide) rfl ?_
  refine sx_icmp_lt (tgt := 24) (pc2 := 10) hX d_Ta_isLetter_7 (by decide) rfl (fun hc3 => ?_) (fun hc3 => ?_)
  · replace h := sx_t h hc3
    refine sx_sub [] [] rfl ?_
    exact g_Ta_isLetter_b24 hX hK hE   _ _ h
  · replace h := sx_f h hc3
    refine sx_aload_n (pc2 := 11) hX 0 d_Ta_isLetter_10 rfl rfl rfl ?_
    refine sx_iload_n (pc2 := 12) hX 1 d_Ta_isLetter_11 rfl rfl rfl ?_
    refine cl_Ta_19 (pc2 := 15) hX hK h  ⟨Nat.le_of_ble_eq_true rfl, Nat.le_of_ble_eq_true rfl⟩ (Nat.le_of_ble_eq_true rfl) d_Ta_isLetter_12 rfl (fun r4 σ4 τ4 h => ?_)
    refine sx_bipush (v := 122) (pc2 := 17) hX d_Ta_isLetter_15 (by decide) rfl ?_
    refine sx_icmp_gt (tgt := 24) (pc2 := 20) hX d_Ta_isLetter_17 (by decide) rfl (fun hc5 => ?_) (fun hc5 => ?_)
    · replace h := sx_t h hc5
      refine sx_sub [] [] rfl ?_
      exact g_Ta_isLetter_b24 hX hK hE   _ _ h
    · replace h := sx_f h hc5
      refine sx_iconst (v := 1) (pc2 := 21) hX d_Ta_isLetter_20 (by decide) rfl ?_
      refine sx_goto (tgt := 25) hX d_Ta_isLetter_21 (by decide) ?_
      refine sx_sub [] [] rfl ?_
      exact g_Ta_isLetter_b25 hX hK hE   1 _ _ h
theorem cl_Ta_27 {X : sx_T} {K : sx_K} {cc : ByteArray} {nL : Nat} {ret : Option FieldType} {rm : Room} {l : Launch} {pc pc2 : Nat} {lv : List (Nat × Value)} {st : List Value} {σ : sx_M} {τ : sx_L} {x1 : Int32} {Q : Int32 → sx_M → Prop} (hX : sx_C X K cc nL "SensorTree$Tape" ret rm l) (hK : kx_C K) (h : wp_Ta_isLetter x1 σ Q)  (hR : rm_Ta_isLetter.frames + 1 ≤ rm.frames ∧ 8 + (2 + 11) + rm_Ta_isLetter.locals ≤ rm.locals) (hst : (st.map fun v => v.category).sum ≤ 8) (hd : decode cc pc = .ok (.invokevirtual 27, 3)) (hpc : pc + 3 = pc2) (kk : ∀ (r : Int32) (σ2 : sx_M) (τ2 : sx_L), Q r σ2 → sx_G X K nL pc2 lv (.int r :: st) (sx_H K σ2 τ2)) : sx_G X K nL pc lv (.int x1 :: .ref (K.2.2.1 1 0 0) :: st) (sx_H K σ τ) :=
  sx_callVi (Q := fun r σ _ => Q r σ) (As := [.int x1]) hX (c_Ta_isLetter hK x1 σ τ Q  h) (hK 1 0 0 (by decide) (by decide)) rfl rfl lk_146 lk_147 hy_Ta_isLetter lk_144 lk_131 lk_145 ⟨rfl, rfl⟩ hR hst rfl hd hpc kk
theorem cl_To_105 {X : sx_T} {K : sx_K} {cc : ByteArray} {nL : Nat} {ret : Option FieldType} {rm : Room} {l : Launch} {pc pc2 : Nat} {lv : List (Nat × Value)} {st : List Value} {σ : sx_M} {τ : sx_L} {x1 : Int32} {Q : Int32 → sx_M → Prop} (hX : sx_C X K cc nL "SensorTree$Tokens" ret rm l) (hK : kx_C K) (h : wp_Ta_isLetter x1 σ Q)  (hR : rm_Ta_isLetter.frames + 1 ≤ rm.frames ∧ 8 + (2 + 11) + rm_Ta_isLetter.locals ≤ rm.locals) (hst : (st.map fun v => v.category).sum ≤ 8) (hd : decode cc pc = .ok (.invokevirtual 105, 3)) (hpc : pc + 3 = pc2) (kk : ∀ (r : Int32) (σ2 : sx_M) (τ2 : sx_L), Q r σ2 → sx_G X K nL pc2 lv (.int r :: st) (sx_H K σ2 τ2)) : sx_G X K nL pc lv (.int x1 :: .ref (K.2.2.1 1 0 0) :: st) (sx_H K σ τ) :=
  sx_callVi (Q := fun r σ _ => Q r σ) (As := [.int x1]) hX (c_Ta_isLetter hK x1 σ τ Q  h) (hK 1 0 0 (by decide) (by decide)) rfl rfl lk_146 lk_147 hy_Ta_isLetter lk_144 lk_131 lk_153 ⟨rfl, rfl⟩ hR hst rfl hd hpc kk
def y_Ta_isDigit : MethodName := ⟨"SensorTree$Tape", "isDigit", "(I)Z"⟩
theorem hy_Ta_isDigit : y_Ta_isDigit.cls ≠ "java/lang/invoke/MethodHandle" ∧ y_Ta_isDigit.cls ≠ "java/lang/invoke/VarHandle" ∧ (parseMethodDescriptor y_Ta_isDigit.desc).map (fun d => d.parameters.length) = some 1 := by decide +kernel
theorem d_Ta_isDigit_0 : decode prog_9_method_5_code 0 = .ok (.aload_n 0, 1) := by decide +kernel
theorem d_Ta_isDigit_1 : decode prog_9_method_5_code 1 = .ok (.iload_n 1, 1) := by decide +kernel
theorem d_Ta_isDigit_2 : decode prog_9_method_5_code 2 = .ok (.invokevirtual 19, 3) := by decide +kernel
theorem d_Ta_isDigit_5 : decode prog_9_method_5_code 5 = .ok (.bipush 48, 2) := by decide +kernel
theorem d_Ta_isDigit_7 : decode prog_9_method_5_code 7 = .ok (.if_icmp .lt 17, 3) := by decide +kernel
theorem d_Ta_isDigit_10 : decode prog_9_method_5_code 10 = .ok (.aload_n 0, 1) := by decide +kernel
theorem d_Ta_isDigit_11 : decode prog_9_method_5_code 11 = .ok (.iload_n 1, 1) := by decide +kernel
theorem d_Ta_isDigit_12 : decode prog_9_method_5_code 12 = .ok (.invokevirtual 19, 3) := by decide +kernel
theorem d_Ta_isDigit_15 : decode prog_9_method_5_code 15 = .ok (.bipush 57, 2) := by decide +kernel
theorem d_Ta_isDigit_17 : decode prog_9_method_5_code 17 = .ok (.if_icmp .gt 7, 3) := by decide +kernel
theorem d_Ta_isDigit_20 : decode prog_9_method_5_code 20 = .ok (.iconst 1, 1) := by decide +kernel
theorem d_Ta_isDigit_21 : decode prog_9_method_5_code 21 = .ok (.goto 4, 3) := by decide +kernel
theorem d_Ta_isDigit_24 : decode prog_9_method_5_code 24 = .ok (.iconst 0, 1) := by decide +kernel
theorem d_Ta_isDigit_25 : decode prog_9_method_5_code 25 = .ok (.ireturn, 1) := by decide +kernel
def wp_Ta_isDigit_b25   (Q : Int32 → sx_M → Prop) (w0 : Int32) (σ : sx_M) : Prop := (w0 = 0 ∨ w0 = 1) ∧ (Q w0 σ)
def wp_Ta_isDigit_b24   (Q : Int32 → sx_M → Prop)  (σ : sx_M) : Prop := wp_Ta_isDigit_b25 Q 0 σ
def wp_Ta_isDigit (x1 : Int32) (σ : sx_M) (Q : Int32 → sx_M → Prop) : Prop := wp_Ta_byteAt x1 σ (fun r2 σ2 => if r2 < 48 then (wp_Ta_isDigit_b24 Q σ2) else (wp_Ta_byteAt x1 σ2 (fun r4 σ4 => if 57 < r4 then (wp_Ta_isDigit_b24 Q σ4) else (wp_Ta_isDigit_b25 Q 1 σ4))))
abbrev rm_Ta_isDigit : Room := { frames := 1, cells := 0, slots := 0, locals := 21 }
set_option maxRecDepth 100000 in
set_option maxHeartbeats 4000000 in
theorem g_Ta_isDigit_b25 {l : Launch} {K : sx_K} {X : sx_T}   {Q : Int32 → sx_M → Prop} (hX : sx_C X K prog_9_method_5_code 2 "SensorTree$Tape" (some .boolean) rm_Ta_isDigit l) (hK : kx_C K) (hE : sx_E X K (sx_Qi K (fun r σ _ => Q r σ)))  (w0 : Int32) (σ : sx_M) (τ : sx_L)  (h : wp_Ta_isDigit_b25 Q  w0 σ) : sx_G X K 2 25 [] [.int w0] (sx_H K σ τ) := by
  unfold wp_Ta_isDigit_b25 at h
  obtain ⟨hc1, h⟩ := h
  exact sx_zret hX hE hc1 h d_Ta_isDigit_25
set_option maxRecDepth 100000 in
set_option maxHeartbeats 4000000 in
theorem g_Ta_isDigit_b24 {l : Launch} {K : sx_K} {X : sx_T}   {Q : Int32 → sx_M → Prop} (hX : sx_C X K prog_9_method_5_code 2 "SensorTree$Tape" (some .boolean) rm_Ta_isDigit l) (hK : kx_C K) (hE : sx_E X K (sx_Qi K (fun r σ _ => Q r σ)))   (σ : sx_M) (τ : sx_L)  (h : wp_Ta_isDigit_b24 Q  σ) : sx_G X K 2 24 [] [] (sx_H K σ τ) := by
  unfold wp_Ta_isDigit_b24 at h
  refine sx_iconst (v := 0) (pc2 := 25) hX d_Ta_isDigit_24 (by decide) rfl ?_
  exact g_Ta_isDigit_b25 hX hK hE   0 _ _ h
set_option maxRecDepth 100000 in
set_option maxHeartbeats 4000000 in
theorem c_Ta_isDigit {l : Launch} {K : sx_K} (hK : kx_C K) (x1 : Int32) (σ : sx_M) (τ : sx_L) (Q : Int32 → sx_M → Prop)  (h : wp_Ta_isDigit x1 σ Q) : Met l y_Ta_isDigit (sx_wd y_Ta_isDigit prog_9_method_5_code 2 (some .boolean)) rm_Ta_isDigit (sx_Pc K [.ref (K.2.2.1 1 0 0), .int x1] σ τ) (sx_Qi K (fun r σ _ => Q r σ)) 0 0 (sx_A K) := by
  refine sx_met (by decide) (Nat.le_of_ble_eq_true rfl) (fun X hX hE => ?_)
  replace hX : sx_C X K prog_9_method_5_code 2 "SensorTree$Tape" (some .boolean) rm_Ta_isDigit l := hX
  show sx_G X K 2 0 [(0, .ref (K.2.2.1 1 0 0)), (1, .int x1)] [] (sx_H K σ τ)
  unfold wp_Ta_isDigit at h
  refine sx_aload_n (pc2 := 1) hX 0 d_Ta_isDigit_0 rfl rfl rfl ?_
  refine sx_iload_n (pc2 := 2) hX 1 d_Ta_isDigit_1 rfl rfl rfl ?_
  refine cl_Ta_19 (pc2 := 5) hX hK h  ⟨Nat.le_of_ble_eq_true rfl, Nat.le_of_ble_eq_true rfl⟩ (Nat.le_of_ble_eq_true rfl) d_Ta_isDigit_2 rfl (fun r2 σ2 τ2 h => ?_)
  refine sx_bipush (v := 48) (pc2 := 7) hX d_Ta_isDigit_5 (by decide) rfl ?_
  refine sx_icmp_lt (tgt := 24) (pc2 := 10) hX d_Ta_isDigit_7 (by decide) rfl (fun hc3 => ?_) (fun hc3 => ?_)
  · replace h := sx_t h hc3
    refine sx_sub [] [] rfl ?_
    exact g_Ta_isDigit_b24 hX hK hE   _ _ h
  · replace h := sx_f h hc3
    refine sx_aload_n (pc2 := 11) hX 0 d_Ta_isDigit_10 rfl rfl rfl ?_
    refine sx_iload_n (pc2 := 12) hX 1 d_Ta_isDigit_11 rfl rfl rfl ?_
    refine cl_Ta_19 (pc2 := 15) hX hK h  ⟨Nat.le_of_ble_eq_true rfl, Nat.le_of_ble_eq_true rfl⟩ (Nat.le_of_ble_eq_true rfl) d_Ta_isDigit_12 rfl (fun r4 σ4 τ4 h => ?_)
    refine sx_bipush (v := 57) (pc2 := 17) hX d_Ta_isDigit_15 (by decide) rfl ?_
    refine sx_icmp_gt (tgt := 24) (pc2 := 20) hX d_Ta_isDigit_17 (by decide) rfl (fun hc5 => ?_) (fun hc5 => ?_)
    · replace h := sx_t h hc5
      refine sx_sub [] [] rfl ?_
      exact g_Ta_isDigit_b24 hX hK hE   _ _ h
    · replace h := sx_f h hc5
      refine sx_iconst (v := 1) (pc2 := 21) hX d_Ta_isDigit_20 (by decide) rfl ?_
      refine sx_goto (tgt := 25) hX d_Ta_isDigit_21 (by decide) ?_
      refine sx_sub [] [] rfl ?_
      exact g_Ta_isDigit_b25 hX hK hE   1 _ _ h
theorem cl_Ta_30 {X : sx_T} {K : sx_K} {cc : ByteArray} {nL : Nat} {ret : Option FieldType} {rm : Room} {l : Launch} {pc pc2 : Nat} {lv : List (Nat × Value)} {st : List Value} {σ : sx_M} {τ : sx_L} {x1 : Int32} {Q : Int32 → sx_M → Prop} (hX : sx_C X K cc nL "SensorTree$Tape" ret rm l) (hK : kx_C K) (h : wp_Ta_isDigit x1 σ Q)  (hR : rm_Ta_isDigit.frames + 1 ≤ rm.frames ∧ 8 + (2 + 11) + rm_Ta_isDigit.locals ≤ rm.locals) (hst : (st.map fun v => v.category).sum ≤ 8) (hd : decode cc pc = .ok (.invokevirtual 30, 3)) (hpc : pc + 3 = pc2) (kk : ∀ (r : Int32) (σ2 : sx_M) (τ2 : sx_L), Q r σ2 → sx_G X K nL pc2 lv (.int r :: st) (sx_H K σ2 τ2)) : sx_G X K nL pc lv (.int x1 :: .ref (K.2.2.1 1 0 0) :: st) (sx_H K σ τ) :=
  sx_callVi (Q := fun r σ _ => Q r σ) (As := [.int x1]) hX (c_Ta_isDigit hK x1 σ τ Q  h) (hK 1 0 0 (by decide) (by decide)) rfl rfl lk_142 lk_143 hy_Ta_isDigit lk_140 lk_131 lk_141 ⟨rfl, rfl⟩ hR hst rfl hd hpc kk
theorem cl_To_111 {X : sx_T} {K : sx_K} {cc : ByteArray} {nL : Nat} {ret : Option FieldType} {rm : Room} {l : Launch} {pc pc2 : Nat} {lv : List (Nat × Value)} {st : List Value} {σ : sx_M} {τ : sx_L} {x1 : Int32} {Q : Int32 → sx_M → Prop} (hX : sx_C X K cc nL "SensorTree$Tokens" ret rm l) (hK : kx_C K) (h : wp_Ta_isDigit x1 σ Q)  (hR : rm_Ta_isDigit.frames + 1 ≤ rm.frames ∧ 8 + (2 + 11) + rm_Ta_isDigit.locals ≤ rm.locals) (hst : (st.map fun v => v.category).sum ≤ 8) (hd : decode cc pc = .ok (.invokevirtual 111, 3)) (hpc : pc + 3 = pc2) (kk : ∀ (r : Int32) (σ2 : sx_M) (τ2 : sx_L), Q r σ2 → sx_G X K nL pc2 lv (.int r :: st) (sx_H K σ2 τ2)) : sx_G X K nL pc lv (.int x1 :: .ref (K.2.2.1 1 0 0) :: st) (sx_H K σ τ) :=
  sx_callVi (Q := fun r σ _ => Q r σ) (As := [.int x1]) hX (c_Ta_isDigit hK x1 σ τ Q  h) (hK 1 0 0 (by decide) (by decide)) rfl rfl lk_142 lk_143 hy_Ta_isDigit lk_140 lk_131 lk_154 ⟨rfl, rfl⟩ hR hst rfl hd hpc kk
def y_Ta_runEnd : MethodName := ⟨"SensorTree$Tape", "runEnd", "(I)I"⟩
theorem hy_Ta_runEnd : y_Ta_runEnd.cls ≠ "java/lang/invoke/MethodHandle" ∧ y_Ta_runEnd.cls ≠ "java/lang/invoke/VarHandle" ∧ (parseMethodDescriptor y_Ta_runEnd.desc).map (fun d => d.parameters.length) = some 1 := by decide +kernel
theorem d_Ta_runEnd_0 : decode prog_9_method_8_code 0 = .ok (.iload_n 1, 1) := by decide +kernel
theorem d_Ta_runEnd_1 : decode prog_9_method_8_code 1 = .ok (.istore_n 2, 1) := by decide +kernel
theorem d_Ta_runEnd_2 : decode prog_9_method_8_code 2 = .ok (.aload_n 0, 1) := by decide +kernel
theorem d_Ta_runEnd_3 : decode prog_9_method_8_code 3 = .ok (.iload_n 1, 1) := by decide +kernel
theorem d_Ta_runEnd_4 : decode prog_9_method_8_code 4 = .ok (.invokevirtual 27, 3) := by decide +kernel
theorem d_Ta_runEnd_7 : decode prog_9_method_8_code 7 = .ok (.ifCond .eq 25, 3) := by decide +kernel
theorem d_Ta_runEnd_10 : decode prog_9_method_8_code 10 = .ok (.iload_n 2, 1) := by decide +kernel
theorem d_Ta_runEnd_11 : decode prog_9_method_8_code 11 = .ok (.aload_n 0, 1) := by decide +kernel
theorem d_Ta_runEnd_12 : decode prog_9_method_8_code 12 = .ok (.getfield 15, 3) := by decide +kernel
theorem d_Ta_runEnd_15 : decode prog_9_method_8_code 15 = .ok (.if_icmp .ge 50, 3) := by decide +kernel
theorem d_Ta_runEnd_18 : decode prog_9_method_8_code 18 = .ok (.aload_n 0, 1) := by decide +kernel
theorem d_Ta_runEnd_19 : decode prog_9_method_8_code 19 = .ok (.iload_n 2, 1) := by decide +kernel
theorem d_Ta_runEnd_20 : decode prog_9_method_8_code 20 = .ok (.invokevirtual 27, 3) := by decide +kernel
theorem d_Ta_runEnd_23 : decode prog_9_method_8_code 23 = .ok (.ifCond .eq 42, 3) := by decide +kernel
theorem d_Ta_runEnd_26 : decode prog_9_method_8_code 26 = .ok (.iinc 2 1, 3) := by decide +kernel
theorem d_Ta_runEnd_29 : decode prog_9_method_8_code 29 = .ok (.goto (-19), 3) := by decide +kernel
theorem d_Ta_runEnd_32 : decode prog_9_method_8_code 32 = .ok (.aload_n 0, 1) := by decide +kernel
theorem d_Ta_runEnd_33 : decode prog_9_method_8_code 33 = .ok (.iload_n 1, 1) := by decide +kernel
theorem d_Ta_runEnd_34 : decode prog_9_method_8_code 34 = .ok (.invokevirtual 30, 3) := by decide +kernel
theorem d_Ta_runEnd_37 : decode prog_9_method_8_code 37 = .ok (.ifCond .eq 25, 3) := by decide +kernel
theorem d_Ta_runEnd_40 : decode prog_9_method_8_code 40 = .ok (.iload_n 2, 1) := by decide +kernel
theorem d_Ta_runEnd_41 : decode prog_9_method_8_code 41 = .ok (.aload_n 0, 1) := by decide +kernel
theorem d_Ta_runEnd_42 : decode prog_9_method_8_code 42 = .ok (.getfield 15, 3) := by decide +kernel
theorem d_Ta_runEnd_45 : decode prog_9_method_8_code 45 = .ok (.if_icmp .ge 20, 3) := by decide +kernel
theorem d_Ta_runEnd_48 : decode prog_9_method_8_code 48 = .ok (.aload_n 0, 1) := by decide +kernel
theorem d_Ta_runEnd_49 : decode prog_9_method_8_code 49 = .ok (.iload_n 2, 1) := by decide +kernel
theorem d_Ta_runEnd_50 : decode prog_9_method_8_code 50 = .ok (.invokevirtual 30, 3) := by decide +kernel
theorem d_Ta_runEnd_53 : decode prog_9_method_8_code 53 = .ok (.ifCond .eq 12, 3) := by decide +kernel
theorem d_Ta_runEnd_56 : decode prog_9_method_8_code 56 = .ok (.iinc 2 1, 3) := by decide +kernel
theorem d_Ta_runEnd_59 : decode prog_9_method_8_code 59 = .ok (.goto (-19), 3) := by decide +kernel
theorem d_Ta_runEnd_62 : decode prog_9_method_8_code 62 = .ok (.iinc 2 1, 3) := by decide +kernel
theorem d_Ta_runEnd_65 : decode prog_9_method_8_code 65 = .ok (.iload_n 2, 1) := by decide +kernel
theorem d_Ta_runEnd_66 : decode prog_9_method_8_code 66 = .ok (.ireturn, 1) := by decide +kernel
def wp_Ta_runEnd_b65   (Q : Int32 → sx_M → Prop) (v2 : Int32) (σ : sx_M) : Prop := Q v2 σ
def wp_Ta_runEnd_b40   (Q : Int32 → sx_M → Prop) : Nat → Int32 → sx_M → Prop
  | 0, _, _ => False
  | f + 1, v2, σ => if σ 1 0 0 1 ≤ v2 then (wp_Ta_runEnd_b65 Q v2 σ) else (wp_Ta_isDigit v2 σ (fun r2 σ2 => if r2 = 0 then (wp_Ta_runEnd_b65 Q v2 σ2) else (wp_Ta_runEnd_b40 Q f (v2 + 1) σ2)))
def wp_Ta_runEnd_b10   (Q : Int32 → sx_M → Prop) : Nat → Int32 → sx_M → Prop
  | 0, _, _ => False
  | f + 1, v2, σ => if σ 1 0 0 1 ≤ v2 then (wp_Ta_runEnd_b65 Q v2 σ) else (wp_Ta_isLetter v2 σ (fun r5 σ5 => if r5 = 0 then (wp_Ta_runEnd_b65 Q v2 σ5) else (wp_Ta_runEnd_b10 Q f (v2 + 1) σ5)))
def wp_Ta_runEnd (x1 : Int32) (σ : sx_M) (Q : Int32 → sx_M → Prop) : Prop := wp_Ta_isLetter x1 σ (fun r7 σ7 => if r7 = 0 then (wp_Ta_isDigit x1 σ7 (fun r9 σ9 => if r9 = 0 then (wp_Ta_runEnd_b65 Q (x1 + 1) σ9) else (∃ f40, wp_Ta_runEnd_b40 Q f40 x1 σ9))) else (∃ f10, wp_Ta_runEnd_b10 Q f10 x1 σ7))
abbrev rm_Ta_runEnd : Room := { frames := 2, cells := 0, slots := 0, locals := 42 }
set_option maxRecDepth 100000 in
set_option maxHeartbeats 4000000 in
theorem g_Ta_runEnd_b65 {l : Launch} {K : sx_K} {X : sx_T}   {Q : Int32 → sx_M → Prop} (hX : sx_C X K prog_9_method_8_code 3 "SensorTree$Tape" (some .int) rm_Ta_runEnd l) (hK : kx_C K) (hE : sx_E X K (sx_Qi K (fun r σ _ => Q r σ)))  (v2 : Int32) (σ : sx_M) (τ : sx_L)  (h : wp_Ta_runEnd_b65 Q  v2 σ) : sx_G X K 3 65 [(2, .int v2)] [] (sx_H K σ τ) := by
  unfold wp_Ta_runEnd_b65 at h
  refine sx_iload_n (pc2 := 66) hX 0 d_Ta_runEnd_65 rfl rfl rfl ?_
  exact sx_iret hX hE h d_Ta_runEnd_66
set_option maxRecDepth 100000 in
set_option maxHeartbeats 4000000 in
theorem g_Ta_runEnd_b40 {l : Launch} {K : sx_K} {X : sx_T}   {Q : Int32 → sx_M → Prop} (hX : sx_C X K prog_9_method_8_code 3 "SensorTree$Tape" (some .int) rm_Ta_runEnd l) (hK : kx_C K) (hE : sx_E X K (sx_Qi K (fun r σ _ => Q r σ)))  : ∀ (f : Nat) (v2 : Int32) (σ : sx_M) (τ : sx_L) , wp_Ta_runEnd_b40 Q f v2 σ → sx_G X K 3 40 [(0, .ref (K.2.2.1 1 0 0)), (2, .int v2)] [] (sx_H K σ τ) := by
  intro f
  induction f with
  | zero => intro v2 σ τ h; exact (show False from h).elim
  | succ f ih =>
    intro v2 σ τ h
    rw [wp_Ta_runEnd_b40] at h
    refine sx_iload_n (pc2 := 41) hX 1 d_Ta_runEnd_40 rfl rfl rfl ?_
    refine sx_aload_n (pc2 := 42) hX 0 d_Ta_runEnd_41 rfl rfl rfl ?_
    refine fg_Ta_15 (pc2 := 45) hX (hK 1 0 0 (by decide) (by decide)) d_Ta_runEnd_42 rfl ?_
    refine sx_icmp_ge (tgt := 65) (pc2 := 48) hX d_Ta_runEnd_45 (by decide) rfl (fun hc1 => ?_) (fun hc1 => ?_)
    · replace h := sx_t h hc1
      refine sx_sub [(2, .int v2)] [1] rfl ?_
      exact g_Ta_runEnd_b65 hX hK hE   v2 _ _ h
    · replace h := sx_f h hc1
      refine sx_aload_n (pc2 := 49) hX 0 d_Ta_runEnd_48 rfl rfl rfl ?_
      refine sx_iload_n (pc2 := 50) hX 1 d_Ta_runEnd_49 rfl rfl rfl ?_
      refine cl_Ta_30 (pc2 := 53) hX hK h  ⟨Nat.le_of_ble_eq_true rfl, Nat.le_of_ble_eq_true rfl⟩ (Nat.le_of_ble_eq_true rfl) d_Ta_runEnd_50 rfl (fun r2 σ2 τ2 h => ?_)
      refine sx_if_eq (tgt := 65) (pc2 := 56) hX d_Ta_runEnd_53 (by decide) rfl (fun hc3 => ?_) (fun hc3 => ?_)
      · replace h := sx_t h hc3
        refine sx_sub [(2, .int v2)] [1] rfl ?_
        exact g_Ta_runEnd_b65 hX hK hE   v2 _ _ h
      · replace h := sx_f h hc3
        refine sx_iinc (pc2 := 59) hX 1 _ [(0, .ref (K.2.2.1 1 0 0)), (2, .int (v2 + 1))] [1, 0] d_Ta_runEnd_56 rfl (v2 + 1) rfl (by decide) rfl rfl rfl ?_
        refine sx_goto (tgt := 40) hX d_Ta_runEnd_59 (by decide) ?_
        exact ih (v2 + 1) _ _ h
set_option maxRecDepth 100000 in
set_option maxHeartbeats 4000000 in
theorem g_Ta_runEnd_b10 {l : Launch} {K : sx_K} {X : sx_T}   {Q : Int32 → sx_M → Prop} (hX : sx_C X K prog_9_method_8_code 3 "SensorTree$Tape" (some .int) rm_Ta_runEnd l) (hK : kx_C K) (hE : sx_E X K (sx_Qi K (fun r σ _ => Q r σ)))  : ∀ (f : Nat) (v2 : Int32) (σ : sx_M) (τ : sx_L) , wp_Ta_runEnd_b10 Q f v2 σ → sx_G X K 3 10 [(0, .ref (K.2.2.1 1 0 0)), (2, .int v2)] [] (sx_H K σ τ) := by
  intro f
  induction f with
  | zero => intro v2 σ τ h; exact (show False from h).elim
  | succ f ih =>
    intro v2 σ τ h
    rw [wp_Ta_runEnd_b10] at h
    refine sx_iload_n (pc2 := 11) hX 1 d_Ta_runEnd_10 rfl rfl rfl ?_
    refine sx_aload_n (pc2 := 12) hX 0 d_Ta_runEnd_11 rfl rfl rfl ?_
    refine fg_Ta_15 (pc2 := 15) hX (hK 1 0 0 (by decide) (by decide)) d_Ta_runEnd_12 rfl ?_
    refine sx_icmp_ge (tgt := 65) (pc2 := 18) hX d_Ta_runEnd_15 (by decide) rfl (fun hc4 => ?_) (fun hc4 => ?_)
    · replace h := sx_t h hc4
      refine sx_sub [(2, .int v2)] [1] rfl ?_
      exact g_Ta_runEnd_b65 hX hK hE   v2 _ _ h
    · replace h := sx_f h hc4
      refine sx_aload_n (pc2 := 19) hX 0 d_Ta_runEnd_18 rfl rfl rfl ?_
      refine sx_iload_n (pc2 := 20) hX 1 d_Ta_runEnd_19 rfl rfl rfl ?_
      refine cl_Ta_27 (pc2 := 23) hX hK h  ⟨Nat.le_of_ble_eq_true rfl, Nat.le_of_ble_eq_true rfl⟩ (Nat.le_of_ble_eq_true rfl) d_Ta_runEnd_20 rfl (fun r5 σ5 τ5 h => ?_)
      refine sx_if_eq (tgt := 65) (pc2 := 26) hX d_Ta_runEnd_23 (by decide) rfl (fun hc6 => ?_) (fun hc6 => ?_)
      · replace h := sx_t h hc6
        refine sx_sub [(2, .int v2)] [1] rfl ?_
        exact g_Ta_runEnd_b65 hX hK hE   v2 _ _ h
      · replace h := sx_f h hc6
        refine sx_iinc (pc2 := 29) hX 1 _ [(0, .ref (K.2.2.1 1 0 0)), (2, .int (v2 + 1))] [1, 0] d_Ta_runEnd_26 rfl (v2 + 1) rfl (by decide) rfl rfl rfl ?_
        refine sx_goto (tgt := 10) hX d_Ta_runEnd_29 (by decide) ?_
        exact ih (v2 + 1) _ _ h
set_option maxRecDepth 100000 in
set_option maxHeartbeats 4000000 in
theorem c_Ta_runEnd {l : Launch} {K : sx_K} (hK : kx_C K) (x1 : Int32) (σ : sx_M) (τ : sx_L) (Q : Int32 → sx_M → Prop)  (h : wp_Ta_runEnd x1 σ Q) : Met l y_Ta_runEnd (sx_wd y_Ta_runEnd prog_9_method_8_code 3 (some .int)) rm_Ta_runEnd (sx_Pc K [.ref (K.2.2.1 1 0 0), .int x1] σ τ) (sx_Qi K (fun r σ _ => Q r σ)) 0 0 (sx_A K) := by
  refine sx_met (by decide) (Nat.le_of_ble_eq_true rfl) (fun X hX hE => ?_)
  replace hX : sx_C X K prog_9_method_8_code 3 "SensorTree$Tape" (some .int) rm_Ta_runEnd l := hX
  show sx_G X K 3 0 [(0, .ref (K.2.2.1 1 0 0)), (1, .int x1)] [] (sx_H K σ τ)
  unfold wp_Ta_runEnd at h
  refine sx_iload_n (pc2 := 1) hX 1 d_Ta_runEnd_0 rfl rfl rfl ?_
  refine sx_istore_n (pc2 := 2) hX _ [(0, .ref (K.2.2.1 1 0 0)), (1, .int x1), (2, .int x1)] [1, 2, 0] d_Ta_runEnd_1 rfl (by decide) rfl rfl rfl ?_
  refine sx_aload_n (pc2 := 3) hX 0 d_Ta_runEnd_2 rfl rfl rfl ?_
  refine sx_iload_n (pc2 := 4) hX 1 d_Ta_runEnd_3 rfl rfl rfl ?_
  refine cl_Ta_27 (pc2 := 7) hX hK h  ⟨Nat.le_of_ble_eq_true rfl, Nat.le_of_ble_eq_true rfl⟩ (Nat.le_of_ble_eq_true rfl) d_Ta_runEnd_4 rfl (fun r7 σ7 τ7 h => ?_)
  refine sx_if_eq (tgt := 32) (pc2 := 10) hX d_Ta_runEnd_7 (by decide) rfl (fun hc8 => ?_) (fun hc8 => ?_)
  · replace h := sx_t h hc8
    refine sx_aload_n (pc2 := 33) hX 0 d_Ta_runEnd_32 rfl rfl rfl ?_
    refine sx_iload_n (pc2 := 34) hX 1 d_Ta_runEnd_33 rfl rfl rfl ?_
    refine cl_Ta_30 (pc2 := 37) hX hK h  ⟨Nat.le_of_ble_eq_true rfl, Nat.le_of_ble_eq_true rfl⟩ (Nat.le_of_ble_eq_true rfl) d_Ta_runEnd_34 rfl (fun r9 σ9 τ9 h => ?_)
    refine sx_if_eq (tgt := 62) (pc2 := 40) hX d_Ta_runEnd_37 (by decide) rfl (fun hc10 => ?_) (fun hc10 => ?_)
    · replace h := sx_t h hc10
      refine sx_iinc (pc2 := 65) hX 2 _ [(0, .ref (K.2.2.1 1 0 0)), (1, .int x1), (2, .int (x1 + 1))] [1, 2, 0] d_Ta_runEnd_62 rfl (x1 + 1) rfl (by decide) rfl rfl rfl ?_
      refine sx_sub [(2, .int (x1 + 1))] [2] rfl ?_
      exact g_Ta_runEnd_b65 hX hK hE   (x1 + 1) _ _ h
    · replace h := sx_f h hc10
      refine sx_sub [(0, .ref (K.2.2.1 1 0 0)), (2, .int x1)] [0, 2] rfl ?_
      obtain ⟨f40, h⟩ := h
      exact g_Ta_runEnd_b40 hX hK hE   f40 x1 _ _ h
  · replace h := sx_f h hc8
    refine sx_sub [(0, .ref (K.2.2.1 1 0 0)), (2, .int x1)] [0, 2] rfl ?_
    obtain ⟨f10, h⟩ := h
    exact g_Ta_runEnd_b10 hX hK hE   f10 x1 _ _ h
theorem cl_To_55 {X : sx_T} {K : sx_K} {cc : ByteArray} {nL : Nat} {ret : Option FieldType} {rm : Room} {l : Launch} {pc pc2 : Nat} {lv : List (Nat × Value)} {st : List Value} {σ : sx_M} {τ : sx_L} {x1 : Int32} {Q : Int32 → sx_M → Prop} (hX : sx_C X K cc nL "SensorTree$Tokens" ret rm l) (hK : kx_C K) (h : wp_Ta_runEnd x1 σ Q)  (hR : rm_Ta_runEnd.frames + 1 ≤ rm.frames ∧ 8 + (3 + 11) + rm_Ta_runEnd.locals ≤ rm.locals) (hst : (st.map fun v => v.category).sum ≤ 8) (hd : decode cc pc = .ok (.invokevirtual 55, 3)) (hpc : pc + 3 = pc2) (kk : ∀ (r : Int32) (σ2 : sx_M) (τ2 : sx_L), Q r σ2 → sx_G X K nL pc2 lv (.int r :: st) (sx_H K σ2 τ2)) : sx_G X K nL pc lv (.int x1 :: .ref (K.2.2.1 1 0 0) :: st) (sx_H K σ τ) :=
  sx_callVi (Q := fun r σ _ => Q r σ) (As := [.int x1]) hX (c_Ta_runEnd hK x1 σ τ Q  h) (hK 1 0 0 (by decide) (by decide)) rfl rfl lk_179 lk_180 hy_Ta_runEnd lk_177 lk_131 lk_178 ⟨rfl, rfl⟩ hR hst rfl hd hpc kk
def y_To_shapeOf : MethodName := ⟨"SensorTree$Tokens", "shapeOf", "(I)Ljava/lang/String;"⟩
theorem hy_To_shapeOf : y_To_shapeOf.cls ≠ "java/lang/invoke/MethodHandle" ∧ y_To_shapeOf.cls ≠ "java/lang/invoke/VarHandle" ∧ (parseMethodDescriptor y_To_shapeOf.desc).map (fun d => d.parameters.length) = some 1 := by decide +kernel
theorem d_To_shapeOf_0 : decode prog_10_method_7_code 0 = .ok (.iload_n 0, 1) := by decide +kernel
theorem d_To_shapeOf_1 : decode prog_10_method_7_code 1 = .ok (.ifCond .ne 6, 3) := by decide +kernel
theorem d_To_shapeOf_4 : decode prog_10_method_7_code 4 = .ok (.ldc 95, 2) := by decide +kernel
theorem d_To_shapeOf_6 : decode prog_10_method_7_code 6 = .ok (.areturn, 1) := by decide +kernel
theorem d_To_shapeOf_7 : decode prog_10_method_7_code 7 = .ok (.iload_n 0, 1) := by decide +kernel
theorem d_To_shapeOf_8 : decode prog_10_method_7_code 8 = .ok (.iconst 1, 1) := by decide +kernel
theorem d_To_shapeOf_9 : decode prog_10_method_7_code 9 = .ok (.if_icmp .ne 6, 3) := by decide +kernel
theorem d_To_shapeOf_12 : decode prog_10_method_7_code 12 = .ok (.ldc 97, 2) := by decide +kernel
theorem d_To_shapeOf_14 : decode prog_10_method_7_code 14 = .ok (.areturn, 1) := by decide +kernel
theorem d_To_shapeOf_15 : decode prog_10_method_7_code 15 = .ok (.iload_n 0, 1) := by decide +kernel
theorem d_To_shapeOf_16 : decode prog_10_method_7_code 16 = .ok (.bipush 11, 2) := by decide +kernel
theorem d_To_shapeOf_18 : decode prog_10_method_7_code 18 = .ok (.if_icmp .ne 6, 3) := by decide +kernel
theorem d_To_shapeOf_21 : decode prog_10_method_7_code 21 = .ok (.ldc 99, 2) := by decide +kernel
theorem d_To_shapeOf_23 : decode prog_10_method_7_code 23 = .ok (.areturn, 1) := by decide +kernel
theorem d_To_shapeOf_24 : decode prog_10_method_7_code 24 = .ok (.iload_n 0, 1) := by decide +kernel
theorem d_To_shapeOf_25 : decode prog_10_method_7_code 25 = .ok (.iconst 2, 1) := by decide +kernel
theorem d_To_shapeOf_26 : decode prog_10_method_7_code 26 = .ok (.if_icmp .lt 14, 3) := by decide +kernel
theorem d_To_shapeOf_29 : decode prog_10_method_7_code 29 = .ok (.iload_n 0, 1) := by decide +kernel
theorem d_To_shapeOf_30 : decode prog_10_method_7_code 30 = .ok (.bipush 10, 2) := by decide +kernel
theorem d_To_shapeOf_32 : decode prog_10_method_7_code 32 = .ok (.if_icmp .gt 8, 3) := by decide +kernel
theorem d_To_shapeOf_35 : decode prog_10_method_7_code 35 = .ok (.ldc 101, 2) := by decide +kernel
theorem d_To_shapeOf_37 : decode prog_10_method_7_code 37 = .ok (.goto 5, 3) := by decide +kernel
theorem d_To_shapeOf_40 : decode prog_10_method_7_code 40 = .ok (.ldc 31, 2) := by decide +kernel
theorem d_To_shapeOf_42 : decode prog_10_method_7_code 42 = .ok (.areturn, 1) := by decide +kernel
def wp_To_shapeOf_b42   (Q : Int32 → sx_M → Prop) (w0 : Int32) (σ : sx_M) : Prop := Q w0 σ
def wp_To_shapeOf_b40   (Q : Int32 → sx_M → Prop)  (σ : sx_M) : Prop := wp_To_shapeOf_b42 Q (0 : Int32) σ
def wp_To_shapeOf (x0 : Int32) (σ : sx_M) (Q : Int32 → sx_M → Prop) : Prop := if x0 = 0 then (Q (1 : Int32) σ) else (if x0 = 1 then (Q (2 : Int32) σ) else (if x0 = 11 then (Q (3 : Int32) σ) else (if x0 < 2 then (wp_To_shapeOf_b40 Q σ) else (if 10 < x0 then (wp_To_shapeOf_b40 Q σ) else (wp_To_shapeOf_b42 Q (4 : Int32) σ)))))
abbrev rm_To_shapeOf : Room := { frames := 0, cells := 0, slots := 0, locals := 0 }
set_option maxRecDepth 100000 in
set_option maxHeartbeats 4000000 in
theorem g_To_shapeOf_b42 {l : Launch} {K : sx_K} {X : sx_T}   {Q : Int32 → sx_M → Prop} (hX : sx_C X K prog_10_method_7_code 1 "SensorTree$Tokens" (some (.object "java/lang/String")) rm_To_shapeOf l) (hK : kx_C K) (hE : sx_E X K (sx_Qs K (fun r σ _ => Q r σ)))  (w0 : Int32) (σ : sx_M) (τ : sx_L)  (h : wp_To_shapeOf_b42 Q  w0 σ) : sx_G X K 1 42 [] [.ref (K.2.2.1 40 (w0).toNatClampNeg 0)] (sx_H K σ τ) := by
  unfold wp_To_shapeOf_b42 at h
  exact sx_sret hX hE w0 rfl h d_To_shapeOf_42
set_option maxRecDepth 100000 in
set_option maxHeartbeats 4000000 in
theorem g_To_shapeOf_b40 {l : Launch} {K : sx_K} {X : sx_T}   {Q : Int32 → sx_M → Prop} (hX : sx_C X K prog_10_method_7_code 1 "SensorTree$Tokens" (some (.object "java/lang/String")) rm_To_shapeOf l) (hK : kx_C K) (hE : sx_E X K (sx_Qs K (fun r σ _ => Q r σ)))   (σ : sx_M) (τ : sx_L)  (h : wp_To_shapeOf_b40 Q  σ) : sx_G X K 1 40 [] [] (sx_H K σ τ) := by
  unfold wp_To_shapeOf_b40 at h
  refine sx_ldcS (pc2 := 42) hX hX.2.2.2.2.2.2.2.2.2.2.2.2.1 d_To_shapeOf_40 rfl ?_
  refine sx_ref (a2 := K.2.2.1 40 (0 : Int32).toNatClampNeg 0) rfl ?_
  exact g_To_shapeOf_b42 hX hK hE   (0 : Int32) _ _ h
set_option maxRecDepth 100000 in
set_option maxHeartbeats 4000000 in
theorem c_To_shapeOf {l : Launch} {K : sx_K} (hK : kx_C K) (x0 : Int32) (σ : sx_M) (τ : sx_L) (Q : Int32 → sx_M → Prop)  (h : wp_To_shapeOf x0 σ Q) : Met l y_To_shapeOf (sx_wd y_To_shapeOf prog_10_method_7_code 1 (some (.object "java/lang/String"))) rm_To_shapeOf (sx_Pc K [.int x0] σ τ) (sx_Qs K (fun r σ _ => Q r σ)) 0 0 (sx_A K) := by
  refine sx_met (by decide) (Nat.le_of_ble_eq_true rfl) (fun X hX hE => ?_)
  replace hX : sx_C X K prog_10_method_7_code 1 "SensorTree$Tokens" (some (.object "java/lang/String")) rm_To_shapeOf l := hX
  show sx_G X K 1 0 [(0, .int x0)] [] (sx_H K σ τ)
  unfold wp_To_shapeOf at h
  refine sx_iload_n (pc2 := 1) hX 0 d_To_shapeOf_0 rfl rfl rfl ?_
  refine sx_if_ne (tgt := 7) (pc2 := 4) hX d_To_shapeOf_1 (by decide) rfl (fun hc1 => ?_) (fun hc1 => ?_)
  · replace h := sx_f h hc1
    refine sx_iload_n (pc2 := 8) hX 0 d_To_shapeOf_7 rfl rfl rfl ?_
    refine sx_iconst (v := 1) (pc2 := 9) hX d_To_shapeOf_8 (by decide) rfl ?_
    refine sx_icmp_ne (tgt := 15) (pc2 := 12) hX d_To_shapeOf_9 (by decide) rfl (fun hc2 => ?_) (fun hc2 => ?_)
    · replace h := sx_f h hc2
      refine sx_iload_n (pc2 := 16) hX 0 d_To_shapeOf_15 rfl rfl rfl ?_
      refine sx_bipush (v := 11) (pc2 := 18) hX d_To_shapeOf_16 (by decide) rfl ?_
      refine sx_icmp_ne (tgt := 24) (pc2 := 21) hX d_To_shapeOf_18 (by decide) rfl (fun hc3 => ?_) (fun hc3 => ?_)
      · replace h := sx_f h hc3
        refine sx_iload_n (pc2 := 25) hX 0 d_To_shapeOf_24 rfl rfl rfl ?_
        refine sx_iconst (v := 2) (pc2 := 26) hX d_To_shapeOf_25 (by decide) rfl ?_
        refine sx_icmp_lt (tgt := 40) (pc2 := 29) hX d_To_shapeOf_26 (by decide) rfl (fun hc4 => ?_) (fun hc4 => ?_)
        · replace h := sx_t h hc4
          refine sx_sub [] [] rfl ?_
          exact g_To_shapeOf_b40 hX hK hE   _ _ h
        · replace h := sx_f h hc4
          refine sx_iload_n (pc2 := 30) hX 0 d_To_shapeOf_29 rfl rfl rfl ?_
          refine sx_bipush (v := 10) (pc2 := 32) hX d_To_shapeOf_30 (by decide) rfl ?_
          refine sx_icmp_gt (tgt := 40) (pc2 := 35) hX d_To_shapeOf_32 (by decide) rfl (fun hc5 => ?_) (fun hc5 => ?_)
          · replace h := sx_t h hc5
            refine sx_sub [] [] rfl ?_
            exact g_To_shapeOf_b40 hX hK hE   _ _ h
          · replace h := sx_f h hc5
            refine sx_ldcS (pc2 := 37) hX hX.2.2.2.2.2.2.2.2.2.2.2.2.2.2.2.2.1 d_To_shapeOf_35 rfl ?_
            refine sx_ref (a2 := K.2.2.1 40 (4 : Int32).toNatClampNeg 0) rfl ?_
            refine sx_goto (tgt := 42) hX d_To_shapeOf_37 (by decide) ?_
            refine sx_sub [] [] rfl ?_
            exact g_To_shapeOf_b42 hX hK hE   (4 : Int32) _ _ h
      · replace h := sx_t h hc3
        refine sx_ldcS (pc2 := 23) hX hX.2.2.2.2.2.2.2.2.2.2.2.2.2.2.2.1 d_To_shapeOf_21 rfl ?_
        refine sx_ref (a2 := K.2.2.1 40 (3 : Int32).toNatClampNeg 0) rfl ?_
        exact sx_sret hX hE (3 : Int32) rfl h d_To_shapeOf_23
    · replace h := sx_t h hc2
      refine sx_ldcS (pc2 := 14) hX hX.2.2.2.2.2.2.2.2.2.2.2.2.2.2.1 d_To_shapeOf_12 rfl ?_
      refine sx_ref (a2 := K.2.2.1 40 (2 : Int32).toNatClampNeg 0) rfl ?_
      exact sx_sret hX hE (2 : Int32) rfl h d_To_shapeOf_14
  · replace h := sx_t h hc1
    refine sx_ldcS (pc2 := 6) hX hX.2.2.2.2.2.2.2.2.2.2.2.2.2.1 d_To_shapeOf_4 rfl ?_
    refine sx_ref (a2 := K.2.2.1 40 (1 : Int32).toNatClampNeg 0) rfl ?_
    exact sx_sret hX hE (1 : Int32) rfl h d_To_shapeOf_6
theorem cl_To_75 {X : sx_T} {K : sx_K} {cc : ByteArray} {nL : Nat} {ret : Option FieldType} {rm : Room} {l : Launch} {pc pc2 : Nat} {lv : List (Nat × Value)} {st : List Value} {σ : sx_M} {τ : sx_L} {x0 : Int32} {Q : Int32 → sx_M → Prop} (hX : sx_C X K cc nL "SensorTree$Tokens" ret rm l) (hK : kx_C K) (h : wp_To_shapeOf x0 σ Q)  (hR : rm_To_shapeOf.frames + 1 ≤ rm.frames ∧ 8 + (1 + 11) + rm_To_shapeOf.locals ≤ rm.locals) (hst : (st.map fun v => v.category).sum ≤ 8) (hd : decode cc pc = .ok (.invokestatic 75, 3)) (hpc : pc + 3 = pc2) (kk : ∀ (r : Int32) (σ2 : sx_M) (τ2 : sx_L), Q r σ2 → sx_G X K nL pc2 lv (.ref (K.2.2.1 40 r.toNatClampNeg 0) :: st) (sx_H K σ2 τ2)) : sx_G X K nL pc lv (.int x0 :: st) (sx_H K σ τ) :=
  sx_callSs (Q := fun r σ _ => Q r σ) (As := [.int x0]) hX (c_To_shapeOf hK x0 σ τ Q  h) lk_166 hy_To_shapeOf lk_164 lk_149 lk_165 ⟨rfl, rfl⟩ hR hst rfl hd hpc kk
theorem cl_Re_61 {X : sx_T} {K : sx_K} {cc : ByteArray} {nL : Nat} {ret : Option FieldType} {rm : Room} {l : Launch} {pc pc2 : Nat} {lv : List (Nat × Value)} {st : List Value} {σ : sx_M} {τ : sx_L} {x0 : Int32} {Q : Int32 → sx_M → Prop} (hX : sx_C X K cc nL "SensorTree$Reader" ret rm l) (hK : kx_C K) (h : wp_To_shapeOf x0 σ Q)  (hR : rm_To_shapeOf.frames + 1 ≤ rm.frames ∧ 8 + (1 + 11) + rm_To_shapeOf.locals ≤ rm.locals) (hst : (st.map fun v => v.category).sum ≤ 8) (hd : decode cc pc = .ok (.invokestatic 61, 3)) (hpc : pc + 3 = pc2) (kk : ∀ (r : Int32) (σ2 : sx_M) (τ2 : sx_L), Q r σ2 → sx_G X K nL pc2 lv (.ref (K.2.2.1 40 r.toNatClampNeg 0) :: st) (sx_H K σ2 τ2)) : sx_G X K nL pc lv (.int x0 :: st) (sx_H K σ τ) :=
  sx_callSs (Q := fun r σ _ => Q r σ) (As := [.int x0]) hX (c_To_shapeOf hK x0 σ τ Q  h) lk_166 hy_To_shapeOf lk_164 lk_149 lk_187 ⟨rfl, rfl⟩ hR hst rfl hd hpc kk
def y_To_isOf : MethodName := ⟨"SensorTree$Tokens", "isOf", "(IC)Z"⟩
theorem hy_To_isOf : y_To_isOf.cls ≠ "java/lang/invoke/MethodHandle" ∧ y_To_isOf.cls ≠ "java/lang/invoke/VarHandle" ∧ (parseMethodDescriptor y_To_isOf.desc).map (fun d => d.parameters.length) = some 2 := by decide +kernel
theorem d_To_isOf_0 : decode prog_10_method_8_code 0 = .ok (.iload_n 1, 1) := by decide +kernel
theorem d_To_isOf_1 : decode prog_10_method_8_code 1 = .ok (.bipush 110, 2) := by decide +kernel
theorem d_To_isOf_3 : decode prog_10_method_8_code 3 = .ok (.if_icmp .ne 15, 3) := by decide +kernel
theorem d_To_isOf_6 : decode prog_10_method_8_code 6 = .ok (.iload_n 0, 1) := by decide +kernel
theorem d_To_isOf_7 : decode prog_10_method_8_code 7 = .ok (.bipush 14, 2) := by decide +kernel
theorem d_To_isOf_9 : decode prog_10_method_8_code 9 = .ok (.if_icmp .ne 7, 3) := by decide +kernel
theorem d_To_isOf_12 : decode prog_10_method_8_code 12 = .ok (.iconst 1, 1) := by decide +kernel
theorem d_To_isOf_13 : decode prog_10_method_8_code 13 = .ok (.goto 4, 3) := by decide +kernel
theorem d_To_isOf_16 : decode prog_10_method_8_code 16 = .ok (.iconst 0, 1) := by decide +kernel
theorem d_To_isOf_17 : decode prog_10_method_8_code 17 = .ok (.ireturn, 1) := by decide +kernel
theorem d_To_isOf_18 : decode prog_10_method_8_code 18 = .ok (.iload_n 1, 1) := by decide +kernel
theorem d_To_isOf_19 : decode prog_10_method_8_code 19 = .ok (.bipush 105, 2) := by decide +kernel
theorem d_To_isOf_21 : decode prog_10_method_8_code 21 = .ok (.if_icmp .ne 15, 3) := by decide +kernel
theorem d_To_isOf_24 : decode prog_10_method_8_code 24 = .ok (.iload_n 0, 1) := by decide +kernel
theorem d_To_isOf_25 : decode prog_10_method_8_code 25 = .ok (.bipush 15, 2) := by decide +kernel
theorem d_To_isOf_27 : decode prog_10_method_8_code 27 = .ok (.if_icmp .ne 7, 3) := by decide +kernel
theorem d_To_isOf_30 : decode prog_10_method_8_code 30 = .ok (.iconst 1, 1) := by decide +kernel
theorem d_To_isOf_31 : decode prog_10_method_8_code 31 = .ok (.goto 4, 3) := by decide +kernel
theorem d_To_isOf_34 : decode prog_10_method_8_code 34 = .ok (.iconst 0, 1) := by decide +kernel
theorem d_To_isOf_35 : decode prog_10_method_8_code 35 = .ok (.ireturn, 1) := by decide +kernel
theorem d_To_isOf_36 : decode prog_10_method_8_code 36 = .ok (.iload_n 1, 1) := by decide +kernel
theorem d_To_isOf_37 : decode prog_10_method_8_code 37 = .ok (.bipush 103, 2) := by decide +kernel
theorem d_To_isOf_39 : decode prog_10_method_8_code 39 = .ok (.if_icmp .ne 23, 3) := by decide +kernel
theorem d_To_isOf_42 : decode prog_10_method_8_code 42 = .ok (.iload_n 0, 1) := by decide +kernel
theorem d_To_isOf_43 : decode prog_10_method_8_code 43 = .ok (.bipush 12, 2) := by decide +kernel
theorem d_To_isOf_45 : decode prog_10_method_8_code 45 = .ok (.if_icmp .eq 9, 3) := by decide +kernel
theorem d_To_isOf_48 : decode prog_10_method_8_code 48 = .ok (.iload_n 0, 1) := by decide +kernel
theorem d_To_isOf_49 : decode prog_10_method_8_code 49 = .ok (.bipush 13, 2) := by decide +kernel
theorem d_To_isOf_51 : decode prog_10_method_8_code 51 = .ok (.if_icmp .ne 7, 3) := by decide +kernel
theorem d_To_isOf_54 : decode prog_10_method_8_code 54 = .ok (.iconst 1, 1) := by decide +kernel
theorem d_To_isOf_55 : decode prog_10_method_8_code 55 = .ok (.goto 18, 3) := by decide +kernel
theorem d_To_isOf_58 : decode prog_10_method_8_code 58 = .ok (.iconst 0, 1) := by decide +kernel
theorem d_To_isOf_59 : decode prog_10_method_8_code 59 = .ok (.goto 14, 3) := by decide +kernel
theorem d_To_isOf_62 : decode prog_10_method_8_code 62 = .ok (.iload_n 0, 1) := by decide +kernel
theorem d_To_isOf_63 : decode prog_10_method_8_code 63 = .ok (.bipush 16, 2) := by decide +kernel
theorem d_To_isOf_65 : decode prog_10_method_8_code 65 = .ok (.if_icmp .ne 7, 3) := by decide +kernel
theorem d_To_isOf_68 : decode prog_10_method_8_code 68 = .ok (.iconst 1, 1) := by decide +kernel
theorem d_To_isOf_69 : decode prog_10_method_8_code 69 = .ok (.goto 4, 3) := by decide +kernel
theorem d_To_isOf_72 : decode prog_10_method_8_code 72 = .ok (.iconst 0, 1) := by decide +kernel
theorem d_To_isOf_73 : decode prog_10_method_8_code 73 = .ok (.ireturn, 1) := by decide +kernel
def wp_To_isOf_b73   (Q : Int32 → sx_M → Prop) (w0 : Int32) (σ : sx_M) : Prop := (w0 = 0 ∨ w0 = 1) ∧ (Q w0 σ)
def wp_To_isOf_b54   (Q : Int32 → sx_M → Prop)  (σ : sx_M) : Prop := wp_To_isOf_b73 Q 1 σ
def wp_To_isOf_b35   (Q : Int32 → sx_M → Prop) (w0 : Int32) (σ : sx_M) : Prop := (w0 = 0 ∨ w0 = 1) ∧ (Q w0 σ)
def wp_To_isOf_b17   (Q : Int32 → sx_M → Prop) (w0 : Int32) (σ : sx_M) : Prop := (w0 = 0 ∨ w0 = 1) ∧ (Q w0 σ)
def wp_To_isOf (x0 : Int32) (x1 : Int32) (σ : sx_M) (Q : Int32 → sx_M → Prop) : Prop := if x1 = 110 then (if x0 = 14 then (wp_To_isOf_b17 Q 1 σ) else (wp_To_isOf_b17 Q 0 σ)) else (if x1 = 105 then (if x0 = 15 then (wp_To_isOf_b35 Q 1 σ) else (wp_To_isOf_b35 Q 0 σ)) else (if x1 = 103 then (if x0 = 12 then (wp_To_isOf_b54 Q σ) else (if x0 = 13 then (wp_To_isOf_b54 Q σ) else (wp_To_isOf_b73 Q 0 σ))) else (if x0 = 16 then (wp_To_isOf_b73 Q 1 σ) else (wp_To_isOf_b73 Q 0 σ))))
abbrev rm_To_isOf : Room := { frames := 0, cells := 0, slots := 0, locals := 0 }
set_option maxRecDepth 100000 in
set_option maxHeartbeats 4000000 in
theorem g_To_isOf_b73 {l : Launch} {K : sx_K} {X : sx_T}   {Q : Int32 → sx_M → Prop} (hX : sx_C X K prog_10_method_8_code 2 "SensorTree$Tokens" (some .boolean) rm_To_isOf l) (hK : kx_C K) (hE : sx_E X K (sx_Qi K (fun r σ _ => Q r σ)))  (w0 : Int32) (σ : sx_M) (τ : sx_L)  (h : wp_To_isOf_b73 Q  w0 σ) : sx_G X K 2 73 [] [.int w0] (sx_H K σ τ) := by
  unfold wp_To_isOf_b73 at h
  obtain ⟨hc1, h⟩ := h
  exact sx_zret hX hE hc1 h d_To_isOf_73
set_option maxRecDepth 100000 in
set_option maxHeartbeats 4000000 in
theorem g_To_isOf_b54 {l : Launch} {K : sx_K} {X : sx_T}   {Q : Int32 → sx_M → Prop} (hX : sx_C X K prog_10_method_8_code 2 "SensorTree$Tokens" (some .boolean) rm_To_isOf l) (hK : kx_C K) (hE : sx_E X K (sx_Qi K (fun r σ _ => Q r σ)))   (σ : sx_M) (τ : sx_L)  (h : wp_To_isOf_b54 Q  σ) : sx_G X K 2 54 [] [] (sx_H K σ τ) := by
  unfold wp_To_isOf_b54 at h
  refine sx_iconst (v := 1) (pc2 := 55) hX d_To_isOf_54 (by decide) rfl ?_
  refine sx_goto (tgt := 73) hX d_To_isOf_55 (by decide) ?_
  exact g_To_isOf_b73 hX hK hE   1 _ _ h
set_option maxRecDepth 100000 in
set_option maxHeartbeats 4000000 in
theorem g_To_isOf_b35 {l : Launch} {K : sx_K} {X : sx_T}   {Q : Int32 → sx_M → Prop} (hX : sx_C X K prog_10_method_8_code 2 "SensorTree$Tokens" (some .boolean) rm_To_isOf l) (hK : kx_C K) (hE : sx_E X K (sx_Qi K (fun r σ _ => Q r σ)))  (w0 : Int32) (σ : sx_M) (τ : sx_L)  (h : wp_To_isOf_b35 Q  w0 σ) : sx_G X K 2 35 [] [.int w0] (sx_H K σ τ) := by
  unfold wp_To_isOf_b35 at h
  obtain ⟨hc2, h⟩ := h
  exact sx_zret hX hE hc2 h d_To_isOf_35
set_option maxRecDepth 100000 in
set_option maxHeartbeats 4000000 in
theorem g_To_isOf_b17 {l : Launch} {K : sx_K} {X : sx_T}   {Q : Int32 → sx_M → Prop} (hX : sx_C X K prog_10_method_8_code 2 "SensorTree$Tokens" (some .boolean) rm_To_isOf l) (hK : kx_C K) (hE : sx_E X K (sx_Qi K (fun r σ _ => Q r σ)))  (w0 : Int32) (σ : sx_M) (τ : sx_L)  (h : wp_To_isOf_b17 Q  w0 σ) : sx_G X K 2 17 [] [.int w0] (sx_H K σ τ) := by
  unfold wp_To_isOf_b17 at h
  obtain ⟨hc3, h⟩ := h
  exact sx_zret hX hE hc3 h d_To_isOf_17
set_option maxRecDepth 100000 in
set_option maxHeartbeats 4000000 in
theorem c_To_isOf {l : Launch} {K : sx_K} (hK : kx_C K) (x0 : Int32) (x1 : Int32) (σ : sx_M) (τ : sx_L) (Q : Int32 → sx_M → Prop)  (h : wp_To_isOf x0 x1 σ Q) : Met l y_To_isOf (sx_wd y_To_isOf prog_10_method_8_code 2 (some .boolean)) rm_To_isOf (sx_Pc K [.int x0, .int x1] σ τ) (sx_Qi K (fun r σ _ => Q r σ)) 0 0 (sx_A K) := by
  refine sx_met (by decide) (Nat.le_of_ble_eq_true rfl) (fun X hX hE => ?_)
  replace hX : sx_C X K prog_10_method_8_code 2 "SensorTree$Tokens" (some .boolean) rm_To_isOf l := hX
  show sx_G X K 2 0 [(0, .int x0), (1, .int x1)] [] (sx_H K σ τ)
  unfold wp_To_isOf at h
  refine sx_iload_n (pc2 := 1) hX 1 d_To_isOf_0 rfl rfl rfl ?_
  refine sx_bipush (v := 110) (pc2 := 3) hX d_To_isOf_1 (by decide) rfl ?_
  refine sx_icmp_ne (tgt := 18) (pc2 := 6) hX d_To_isOf_3 (by decide) rfl (fun hc4 => ?_) (fun hc4 => ?_)
  · replace h := sx_f h hc4
    refine sx_iload_n (pc2 := 19) hX 1 d_To_isOf_18 rfl rfl rfl ?_
    refine sx_bipush (v := 105) (pc2 := 21) hX d_To_isOf_19 (by decide) rfl ?_
    refine sx_icmp_ne (tgt := 36) (pc2 := 24) hX d_To_isOf_21 (by decide) rfl (fun hc5 => ?_) (fun hc5 => ?_)
    · replace h := sx_f h hc5
      refine sx_iload_n (pc2 := 37) hX 1 d_To_isOf_36 rfl rfl rfl ?_
      refine sx_bipush (v := 103) (pc2 := 39) hX d_To_isOf_37 (by decide) rfl ?_
      refine sx_icmp_ne (tgt := 62) (pc2 := 42) hX d_To_isOf_39 (by decide) rfl (fun hc6 => ?_) (fun hc6 => ?_)
      · replace h := sx_f h hc6
        refine sx_iload_n (pc2 := 63) hX 0 d_To_isOf_62 rfl rfl rfl ?_
        refine sx_bipush (v := 16) (pc2 := 65) hX d_To_isOf_63 (by decide) rfl ?_
        refine sx_icmp_ne (tgt := 72) (pc2 := 68) hX d_To_isOf_65 (by decide) rfl (fun hc7 => ?_) (fun hc7 => ?_)
        · replace h := sx_f h hc7
          refine sx_iconst (v := 0) (pc2 := 73) hX d_To_isOf_72 (by decide) rfl ?_
          refine sx_sub [] [] rfl ?_
          exact g_To_isOf_b73 hX hK hE   0 _ _ h
        · replace h := sx_t h hc7
          refine sx_iconst (v := 1) (pc2 := 69) hX d_To_isOf_68 (by decide) rfl ?_
          refine sx_goto (tgt := 73) hX d_To_isOf_69 (by decide) ?_
          refine sx_sub [] [] rfl ?_
          exact g_To_isOf_b73 hX hK hE   1 _ _ h
      · replace h := sx_t h hc6
        refine sx_iload_n (pc2 := 43) hX 0 d_To_isOf_42 rfl rfl rfl ?_
        refine sx_bipush (v := 12) (pc2 := 45) hX d_To_isOf_43 (by decide) rfl ?_
        refine sx_icmp_eq (tgt := 54) (pc2 := 48) hX d_To_isOf_45 (by decide) rfl (fun hc8 => ?_) (fun hc8 => ?_)
        · replace h := sx_t h hc8
          refine sx_sub [] [] rfl ?_
          exact g_To_isOf_b54 hX hK hE   _ _ h
        · replace h := sx_f h hc8
          refine sx_iload_n (pc2 := 49) hX 0 d_To_isOf_48 rfl rfl rfl ?_
          refine sx_bipush (v := 13) (pc2 := 51) hX d_To_isOf_49 (by decide) rfl ?_
          refine sx_icmp_ne (tgt := 58) (pc2 := 54) hX d_To_isOf_51 (by decide) rfl (fun hc9 => ?_) (fun hc9 => ?_)
          · replace h := sx_f h hc9
            refine sx_iconst (v := 0) (pc2 := 59) hX d_To_isOf_58 (by decide) rfl ?_
            refine sx_goto (tgt := 73) hX d_To_isOf_59 (by decide) ?_
            refine sx_sub [] [] rfl ?_
            exact g_To_isOf_b73 hX hK hE   0 _ _ h
          · replace h := sx_t h hc9
            refine sx_sub [] [] rfl ?_
            exact g_To_isOf_b54 hX hK hE   _ _ h
    · replace h := sx_t h hc5
      refine sx_iload_n (pc2 := 25) hX 0 d_To_isOf_24 rfl rfl rfl ?_
      refine sx_bipush (v := 15) (pc2 := 27) hX d_To_isOf_25 (by decide) rfl ?_
      refine sx_icmp_ne (tgt := 34) (pc2 := 30) hX d_To_isOf_27 (by decide) rfl (fun hc10 => ?_) (fun hc10 => ?_)
      · replace h := sx_f h hc10
        refine sx_iconst (v := 0) (pc2 := 35) hX d_To_isOf_34 (by decide) rfl ?_
        refine sx_sub [] [] rfl ?_
        exact g_To_isOf_b35 hX hK hE   0 _ _ h
      · replace h := sx_t h hc10
        refine sx_iconst (v := 1) (pc2 := 31) hX d_To_isOf_30 (by decide) rfl ?_
        refine sx_goto (tgt := 35) hX d_To_isOf_31 (by decide) ?_
        refine sx_sub [] [] rfl ?_
        exact g_To_isOf_b35 hX hK hE   1 _ _ h
  · replace h := sx_t h hc4
    refine sx_iload_n (pc2 := 7) hX 0 d_To_isOf_6 rfl rfl rfl ?_
    refine sx_bipush (v := 14) (pc2 := 9) hX d_To_isOf_7 (by decide) rfl ?_
    refine sx_icmp_ne (tgt := 16) (pc2 := 12) hX d_To_isOf_9 (by decide) rfl (fun hc11 => ?_) (fun hc11 => ?_)
    · replace h := sx_f h hc11
      refine sx_iconst (v := 0) (pc2 := 17) hX d_To_isOf_16 (by decide) rfl ?_
      refine sx_sub [] [] rfl ?_
      exact g_To_isOf_b17 hX hK hE   0 _ _ h
    · replace h := sx_t h hc11
      refine sx_iconst (v := 1) (pc2 := 13) hX d_To_isOf_12 (by decide) rfl ?_
      refine sx_goto (tgt := 17) hX d_To_isOf_13 (by decide) ?_
      refine sx_sub [] [] rfl ?_
      exact g_To_isOf_b17 hX hK hE   1 _ _ h
theorem cl_To_87 {X : sx_T} {K : sx_K} {cc : ByteArray} {nL : Nat} {ret : Option FieldType} {rm : Room} {l : Launch} {pc pc2 : Nat} {lv : List (Nat × Value)} {st : List Value} {σ : sx_M} {τ : sx_L} {x0 : Int32} {x1 : Int32} {Q : Int32 → sx_M → Prop} (hX : sx_C X K cc nL "SensorTree$Tokens" ret rm l) (hK : kx_C K) (h : wp_To_isOf x0 x1 σ Q)  (hR : rm_To_isOf.frames + 1 ≤ rm.frames ∧ 8 + (2 + 11) + rm_To_isOf.locals ≤ rm.locals) (hst : (st.map fun v => v.category).sum ≤ 8) (hd : decode cc pc = .ok (.invokestatic 87, 3)) (hpc : pc + 3 = pc2) (kk : ∀ (r : Int32) (σ2 : sx_M) (τ2 : sx_L), Q r σ2 → sx_G X K nL pc2 lv (.int r :: st) (sx_H K σ2 τ2)) : sx_G X K nL pc lv (.int x1 :: .int x0 :: st) (sx_H K σ τ) :=
  sx_callSi (Q := fun r σ _ => Q r σ) (As := [.int x0, .int x1]) hX (c_To_isOf hK x0 x1 σ τ Q  h) lk_163 hy_To_isOf lk_161 lk_149 lk_162 ⟨rfl, rfl⟩ hR hst rfl hd hpc kk
def y_To_isOneTooMany : MethodName := ⟨"SensorTree$Tokens", "isOneTooMany", "(I)Z"⟩
theorem hy_To_isOneTooMany : y_To_isOneTooMany.cls ≠ "java/lang/invoke/MethodHandle" ∧ y_To_isOneTooMany.cls ≠ "java/lang/invoke/VarHandle" ∧ (parseMethodDescriptor y_To_isOneTooMany.desc).map (fun d => d.parameters.length) = some 1 := by decide +kernel
theorem d_To_isOneTooMany_0 : decode prog_10_method_5_code 0 = .ok (.iload_n 1, 1) := by decide +kernel
theorem d_To_isOneTooMany_1 : decode prog_10_method_5_code 1 = .ok (.ifCond .ne 12, 3) := by decide +kernel
theorem d_To_isOneTooMany_4 : decode prog_10_method_5_code 4 = .ok (.aload_n 0, 1) := by decide +kernel
theorem d_To_isOneTooMany_5 : decode prog_10_method_5_code 5 = .ok (.getfield 40, 3) := by decide +kernel
theorem d_To_isOneTooMany_8 : decode prog_10_method_5_code 8 = .ok (.bipush 7, 2) := by decide +kernel
theorem d_To_isOneTooMany_10 : decode prog_10_method_5_code 10 = .ok (.if_icmp .eq 17, 3) := by decide +kernel
theorem d_To_isOneTooMany_13 : decode prog_10_method_5_code 13 = .ok (.iload_n 1, 1) := by decide +kernel
theorem d_To_isOneTooMany_14 : decode prog_10_method_5_code 14 = .ok (.iconst 1, 1) := by decide +kernel
theorem d_To_isOneTooMany_15 : decode prog_10_method_5_code 15 = .ok (.if_icmp .ne 16, 3) := by decide +kernel
theorem d_To_isOneTooMany_18 : decode prog_10_method_5_code 18 = .ok (.aload_n 0, 1) := by decide +kernel
theorem d_To_isOneTooMany_19 : decode prog_10_method_5_code 19 = .ok (.getfield 43, 3) := by decide +kernel
theorem d_To_isOneTooMany_22 : decode prog_10_method_5_code 22 = .ok (.bipush 16, 2) := by decide +kernel
theorem d_To_isOneTooMany_24 : decode prog_10_method_5_code 24 = .ok (.if_icmp .ne 7, 3) := by decide +kernel
theorem d_To_isOneTooMany_27 : decode prog_10_method_5_code 27 = .ok (.iconst 1, 1) := by decide +kernel
theorem d_To_isOneTooMany_28 : decode prog_10_method_5_code 28 = .ok (.goto 4, 3) := by decide +kernel
theorem d_To_isOneTooMany_31 : decode prog_10_method_5_code 31 = .ok (.iconst 0, 1) := by decide +kernel
theorem d_To_isOneTooMany_32 : decode prog_10_method_5_code 32 = .ok (.ireturn, 1) := by decide +kernel
def wp_To_isOneTooMany_b32   (Q : Int32 → sx_M → Prop) (w0 : Int32) (σ : sx_M) : Prop := (w0 = 0 ∨ w0 = 1) ∧ (Q w0 σ)
def wp_To_isOneTooMany_b31   (Q : Int32 → sx_M → Prop)  (σ : sx_M) : Prop := wp_To_isOneTooMany_b32 Q 0 σ
def wp_To_isOneTooMany_b27   (Q : Int32 → sx_M → Prop)  (σ : sx_M) : Prop := wp_To_isOneTooMany_b32 Q 1 σ
def wp_To_isOneTooMany_b13   (Q : Int32 → sx_M → Prop) (v1 : Int32) (σ : sx_M) : Prop := if v1 = 1 then (if σ 4 0 0 9 = 16 then (wp_To_isOneTooMany_b27 Q σ) else (wp_To_isOneTooMany_b31 Q σ)) else (wp_To_isOneTooMany_b31 Q σ)
def wp_To_isOneTooMany (x1 : Int32) (σ : sx_M) (Q : Int32 → sx_M → Prop) : Prop := if x1 = 0 then (if σ 4 0 0 8 = 7 then (wp_To_isOneTooMany_b27 Q σ) else (wp_To_isOneTooMany_b13 Q x1 σ)) else (wp_To_isOneTooMany_b13 Q x1 σ)
abbrev rm_To_isOneTooMany : Room := { frames := 0, cells := 0, slots := 0, locals := 0 }
set_option maxRecDepth 100000 in
set_option maxHeartbeats 4000000 in
theorem g_To_isOneTooMany_b32 {l : Launch} {K : sx_K} {X : sx_T}   {Q : Int32 → sx_M → Prop} (hX : sx_C X K prog_10_method_5_code 2 "SensorTree$Tokens" (some .boolean) rm_To_isOneTooMany l) (hK : kx_C K) (hE : sx_E X K (sx_Qi K (fun r σ _ => Q r σ)))  (w0 : Int32) (σ : sx_M) (τ : sx_L)  (h : wp_To_isOneTooMany_b32 Q  w0 σ) : sx_G X K 2 32 [] [.int w0] (sx_H K σ τ) := by
  unfold wp_To_isOneTooMany_b32 at h
  obtain ⟨hc1, h⟩ := h
  exact sx_zret hX hE hc1 h d_To_isOneTooMany_32
set_option maxRecDepth 100000 in
set_option maxHeartbeats 4000000 in
theorem g_To_isOneTooMany_b31 {l : Launch} {K : sx_K} {X : sx_T}   {Q : Int32 → sx_M → Prop} (hX : sx_C X K prog_10_method_5_code 2 "SensorTree$Tokens" (some .boolean) rm_To_isOneTooMany l) (hK : kx_C K) (hE : sx_E X K (sx_Qi K (fun r σ _ => Q r σ)))   (σ : sx_M) (τ : sx_L)  (h : wp_To_isOneTooMany_b31 Q  σ) : sx_G X K 2 31 [] [] (sx_H K σ τ) := by
  unfold wp_To_isOneTooMany_b31 at h
  refine sx_iconst (v := 0) (pc2 := 32) hX d_To_isOneTooMany_31 (by decide) rfl ?_
  exact g_To_isOneTooMany_b32 hX hK hE   0 _ _ h
set_option maxRecDepth 100000 in
set_option maxHeartbeats 4000000 in
theorem g_To_isOneTooMany_b27 {l : Launch} {K : sx_K} {X : sx_T}   {Q : Int32 → sx_M → Prop} (hX : sx_C X K prog_10_method_5_code 2 "SensorTree$Tokens" (some .boolean) rm_To_isOneTooMany l) (hK : kx_C K) (hE : sx_E X K (sx_Qi K (fun r σ _ => Q r σ)))   (σ : sx_M) (τ : sx_L)  (h : wp_To_isOneTooMany_b27 Q  σ) : sx_G X K 2 27 [] [] (sx_H K σ τ) := by
  unfold wp_To_isOneTooMany_b27 at h
  refine sx_iconst (v := 1) (pc2 := 28) hX d_To_isOneTooMany_27 (by decide) rfl ?_
  refine sx_goto (tgt := 32) hX d_To_isOneTooMany_28 (by decide) ?_
  exact g_To_isOneTooMany_b32 hX hK hE   1 _ _ h
set_option maxRecDepth 100000 in
set_option maxHeartbeats 4000000 in
theorem g_To_isOneTooMany_b13 {l : Launch} {K : sx_K} {X : sx_T}   {Q : Int32 → sx_M → Prop} (hX : sx_C X K prog_10_method_5_code 2 "SensorTree$Tokens" (some .boolean) rm_To_isOneTooMany l) (hK : kx_C K) (hE : sx_E X K (sx_Qi K (fun r σ _ => Q r σ)))  (v1 : Int32) (σ : sx_M) (τ : sx_L)  (h : wp_To_isOneTooMany_b13 Q  v1 σ) : sx_G X K 2 13 [(0, .ref (K.2.2.1 4 0 0)), (1, .int v1)] [] (sx_H K σ τ) := by
  unfold wp_To_isOneTooMany_b13 at h
  refine sx_iload_n (pc2 := 14) hX 1 d_To_isOneTooMany_13 rfl rfl rfl ?_
  refine sx_iconst (v := 1) (pc2 := 15) hX d_To_isOneTooMany_14 (by decide) rfl ?_
  refine sx_icmp_ne (tgt := 31) (pc2 := 18) hX d_To_isOneTooMany_15 (by decide) rfl (fun hc2 => ?_) (fun hc2 => ?_)
  · replace h := sx_f h hc2
    refine sx_sub [] [] rfl ?_
    exact g_To_isOneTooMany_b31 hX hK hE   _ _ h
  · replace h := sx_t h hc2
    refine sx_aload_n (pc2 := 19) hX 0 d_To_isOneTooMany_18 rfl rfl rfl ?_
    refine fg_To_43 (pc2 := 22) hX (hK 4 0 0 (by decide) (by decide)) d_To_isOneTooMany_19 rfl ?_
    refine sx_bipush (v := 16) (pc2 := 24) hX d_To_isOneTooMany_22 (by decide) rfl ?_
    refine sx_icmp_ne (tgt := 31) (pc2 := 27) hX d_To_isOneTooMany_24 (by decide) rfl (fun hc3 => ?_) (fun hc3 => ?_)
    · replace h := sx_f h hc3
      refine sx_sub [] [] rfl ?_
      exact g_To_isOneTooMany_b31 hX hK hE   _ _ h
    · replace h := sx_t h hc3
      refine sx_sub [] [] rfl ?_
      exact g_To_isOneTooMany_b27 hX hK hE   _ _ h
set_option maxRecDepth 100000 in
set_option maxHeartbeats 4000000 in
theorem c_To_isOneTooMany {l : Launch} {K : sx_K} (hK : kx_C K) (x1 : Int32) (σ : sx_M) (τ : sx_L) (Q : Int32 → sx_M → Prop)  (h : wp_To_isOneTooMany x1 σ Q) : Met l y_To_isOneTooMany (sx_wd y_To_isOneTooMany prog_10_method_5_code 2 (some .boolean)) rm_To_isOneTooMany (sx_Pc K [.ref (K.2.2.1 4 0 0), .int x1] σ τ) (sx_Qi K (fun r σ _ => Q r σ)) 0 0 (sx_A K) := by
  refine sx_met (by decide) (Nat.le_of_ble_eq_true rfl) (fun X hX hE => ?_)
  replace hX : sx_C X K prog_10_method_5_code 2 "SensorTree$Tokens" (some .boolean) rm_To_isOneTooMany l := hX
  show sx_G X K 2 0 [(0, .ref (K.2.2.1 4 0 0)), (1, .int x1)] [] (sx_H K σ τ)
  unfold wp_To_isOneTooMany at h
  refine sx_iload_n (pc2 := 1) hX 1 d_To_isOneTooMany_0 rfl rfl rfl ?_
  refine sx_if_ne (tgt := 13) (pc2 := 4) hX d_To_isOneTooMany_1 (by decide) rfl (fun hc4 => ?_) (fun hc4 => ?_)
  · replace h := sx_f h hc4
    exact g_To_isOneTooMany_b13 hX hK hE   x1 _ _ h
  · replace h := sx_t h hc4
    refine sx_aload_n (pc2 := 5) hX 0 d_To_isOneTooMany_4 rfl rfl rfl ?_
    refine fg_To_40 (pc2 := 8) hX (hK 4 0 0 (by decide) (by decide)) d_To_isOneTooMany_5 rfl ?_
    refine sx_bipush (v := 7) (pc2 := 10) hX d_To_isOneTooMany_8 (by decide) rfl ?_
    refine sx_icmp_eq (tgt := 27) (pc2 := 13) hX d_To_isOneTooMany_10 (by decide) rfl (fun hc5 => ?_) (fun hc5 => ?_)
    · replace h := sx_t h hc5
      refine sx_sub [] [] rfl ?_
      exact g_To_isOneTooMany_b27 hX hK hE   _ _ h
    · replace h := sx_f h hc5
      exact g_To_isOneTooMany_b13 hX hK hE   x1 _ _ h
theorem cl_To_91 {X : sx_T} {K : sx_K} {cc : ByteArray} {nL : Nat} {ret : Option FieldType} {rm : Room} {l : Launch} {pc pc2 : Nat} {lv : List (Nat × Value)} {st : List Value} {σ : sx_M} {τ : sx_L} {x1 : Int32} {Q : Int32 → sx_M → Prop} (hX : sx_C X K cc nL "SensorTree$Tokens" ret rm l) (hK : kx_C K) (h : wp_To_isOneTooMany x1 σ Q)  (hR : rm_To_isOneTooMany.frames + 1 ≤ rm.frames ∧ 8 + (2 + 11) + rm_To_isOneTooMany.locals ≤ rm.locals) (hst : (st.map fun v => v.category).sum ≤ 8) (hd : decode cc pc = .ok (.invokevirtual 91, 3)) (hpc : pc + 3 = pc2) (kk : ∀ (r : Int32) (σ2 : sx_M) (τ2 : sx_L), Q r σ2 → sx_G X K nL pc2 lv (.int r :: st) (sx_H K σ2 τ2)) : sx_G X K nL pc lv (.int x1 :: .ref (K.2.2.1 4 0 0) :: st) (sx_H K σ τ) :=
  sx_callVi (Q := fun r σ _ => Q r σ) (As := [.int x1]) hX (c_To_isOneTooMany hK x1 σ τ Q  h) (hK 4 0 0 (by decide) (by decide)) rfl rfl lk_160 ls_4 hy_To_isOneTooMany lk_158 lk_149 lk_159 ⟨rfl, rfl⟩ hR hst rfl hd hpc kk
def y_Ta_areAlike : MethodName := ⟨"SensorTree$Tape", "areAlike", "(III)Z"⟩
theorem hy_Ta_areAlike : y_Ta_areAlike.cls ≠ "java/lang/invoke/MethodHandle" ∧ y_Ta_areAlike.cls ≠ "java/lang/invoke/VarHandle" ∧ (parseMethodDescriptor y_Ta_areAlike.desc).map (fun d => d.parameters.length) = some 3 := by decide +kernel
theorem d_Ta_areAlike_0 : decode prog_9_method_10_code 0 = .ok (.iconst 0, 1) := by decide +kernel
theorem d_Ta_areAlike_1 : decode prog_9_method_10_code 1 = .ok (.istore 4, 2) := by decide +kernel
theorem d_Ta_areAlike_3 : decode prog_9_method_10_code 3 = .ok (.iload 4, 2) := by decide +kernel
theorem d_Ta_areAlike_5 : decode prog_9_method_10_code 5 = .ok (.iload_n 3, 1) := by decide +kernel
theorem d_Ta_areAlike_6 : decode prog_9_method_10_code 6 = .ok (.if_icmp .ge 30, 3) := by decide +kernel
theorem d_Ta_areAlike_9 : decode prog_9_method_10_code 9 = .ok (.aload_n 0, 1) := by decide +kernel
theorem d_Ta_areAlike_10 : decode prog_9_method_10_code 10 = .ok (.iload_n 1, 1) := by decide +kernel
theorem d_Ta_areAlike_11 : decode prog_9_method_10_code 11 = .ok (.iload 4, 2) := by decide +kernel
theorem d_Ta_areAlike_13 : decode prog_9_method_10_code 13 = .ok (.iadd, 1) := by decide +kernel
theorem d_Ta_areAlike_14 : decode prog_9_method_10_code 14 = .ok (.invokevirtual 19, 3) := by decide +kernel
theorem d_Ta_areAlike_17 : decode prog_9_method_10_code 17 = .ok (.aload_n 0, 1) := by decide +kernel
theorem d_Ta_areAlike_18 : decode prog_9_method_10_code 18 = .ok (.iload_n 2, 1) := by decide +kernel
theorem d_Ta_areAlike_19 : decode prog_9_method_10_code 19 = .ok (.iload 4, 2) := by decide +kernel
theorem d_Ta_areAlike_21 : decode prog_9_method_10_code 21 = .ok (.iadd, 1) := by decide +kernel
theorem d_Ta_areAlike_22 : decode prog_9_method_10_code 22 = .ok (.invokevirtual 19, 3) := by decide +kernel
theorem d_Ta_areAlike_25 : decode prog_9_method_10_code 25 = .ok (.if_icmp .eq 5, 3) := by decide +kernel
theorem d_Ta_areAlike_28 : decode prog_9_method_10_code 28 = .ok (.iconst 0, 1) := by decide +kernel
theorem d_Ta_areAlike_29 : decode prog_9_method_10_code 29 = .ok (.ireturn, 1) := by decide +kernel
theorem d_Ta_areAlike_30 : decode prog_9_method_10_code 30 = .ok (.iinc 4 1, 3) := by decide +kernel
theorem d_Ta_areAlike_33 : decode prog_9_method_10_code 33 = .ok (.goto (-30), 3) := by decide +kernel
theorem d_Ta_areAlike_36 : decode prog_9_method_10_code 36 = .ok (.iconst 1, 1) := by decide +kernel
theorem d_Ta_areAlike_37 : decode prog_9_method_10_code 37 = .ok (.ireturn, 1) := by decide +kernel
def wp_Ta_areAlike_b3   (Q : Int32 → sx_M → Prop) : Nat → Int32 → Int32 → Int32 → Int32 → sx_M → Prop
  | 0, _, _, _, _, _ => False
  | f + 1, v1, v2, v3, v4, σ => if v3 ≤ v4 then (Q 1 σ) else (wp_Ta_byteAt (v1 + v4) σ (fun r2 σ2 => wp_Ta_byteAt (v2 + v4) σ2 (fun r3 σ3 => if r2 = r3 then (wp_Ta_areAlike_b3 Q f v1 v2 v3 (v4 + 1) σ3) else (Q 0 σ3))))
def wp_Ta_areAlike (x1 : Int32) (x2 : Int32) (x3 : Int32) (σ : sx_M) (Q : Int32 → sx_M → Prop) : Prop := ∃ f3, wp_Ta_areAlike_b3 Q f3 x1 x2 x3 0 σ
abbrev rm_Ta_areAlike : Room := { frames := 1, cells := 0, slots := 0, locals := 21 }
set_option maxRecDepth 100000 in
set_option maxHeartbeats 4000000 in
theorem g_Ta_areAlike_b3 {l : Launch} {K : sx_K} {X : sx_T}   {Q : Int32 → sx_M → Prop} (hX : sx_C X K prog_9_method_10_code 5 "SensorTree$Tape" (some .boolean) rm_Ta_areAlike l) (hK : kx_C K) (hE : sx_E X K (sx_Qi K (fun r σ _ => Q r σ)))  : ∀ (f : Nat) (v1 : Int32) (v2 : Int32) (v3 : Int32) (v4 : Int32) (σ : sx_M) (τ : sx_L) , wp_Ta_areAlike_b3 Q f v1 v2 v3 v4 σ → sx_G X K 5 3 [(0, .ref (K.2.2.1 1 0 0)), (1, .int v1), (2, .int v2), (3, .int v3), (4, .int v4)] [] (sx_H K σ τ) := by
  intro f
  induction f with
  | zero => intro v1 v2 v3 v4 σ τ h; exact (show False from h).elim
  | succ f ih =>
    intro v1 v2 v3 v4 σ τ h
    rw [wp_Ta_areAlike_b3] at h
    refine sx_iload (pc2 := 5) hX 4 d_Ta_areAlike_3 rfl rfl ?_
    refine sx_iload_n (pc2 := 6) hX 3 d_Ta_areAlike_5 rfl rfl rfl ?_
    refine sx_icmp_ge (tgt := 36) (pc2 := 9) hX d_Ta_areAlike_6 (by decide) rfl (fun hc1 => ?_) (fun hc1 => ?_)
    · replace h := sx_t h hc1
      refine sx_iconst (v := 1) (pc2 := 37) hX d_Ta_areAlike_36 (by decide) rfl ?_
      exact sx_zret hX hE (by decide) h d_Ta_areAlike_37
    · replace h := sx_f h hc1
      refine sx_aload_n (pc2 := 10) hX 0 d_Ta_areAlike_9 rfl rfl rfl ?_
      refine sx_iload_n (pc2 := 11) hX 1 d_Ta_areAlike_10 rfl rfl rfl ?_
      refine sx_iload (pc2 := 13) hX 4 d_Ta_areAlike_11 rfl rfl ?_
      refine sx_iadd (pc2 := 14) hX d_Ta_areAlike_13 rfl ?_
      refine cl_Ta_19 (pc2 := 17) hX hK h  ⟨Nat.le_of_ble_eq_true rfl, Nat.le_of_ble_eq_true rfl⟩ (Nat.le_of_ble_eq_true rfl) d_Ta_areAlike_14 rfl (fun r2 σ2 τ2 h => ?_)
      refine sx_aload_n (pc2 := 18) hX 0 d_Ta_areAlike_17 rfl rfl rfl ?_
      refine sx_iload_n (pc2 := 19) hX 2 d_Ta_areAlike_18 rfl rfl rfl ?_
      refine sx_iload (pc2 := 21) hX 4 d_Ta_areAlike_19 rfl rfl ?_
      refine sx_iadd (pc2 := 22) hX d_Ta_areAlike_21 rfl ?_
      refine cl_Ta_19 (pc2 := 25) hX hK h  ⟨Nat.le_of_ble_eq_true rfl, Nat.le_of_ble_eq_true rfl⟩ (Nat.le_of_ble_eq_true rfl) d_Ta_areAlike_22 rfl (fun r3 σ3 τ3 h => ?_)
      refine sx_icmp_eq (tgt := 30) (pc2 := 28) hX d_Ta_areAlike_25 (by decide) rfl (fun hc4 => ?_) (fun hc4 => ?_)
      · replace h := sx_t h hc4
        refine sx_iinc (pc2 := 33) hX 4 _ [(0, .ref (K.2.2.1 1 0 0)), (1, .int v1), (2, .int v2), (3, .int v3), (4, .int (v4 + 1))] [1, 2, 3, 4, 0] d_Ta_areAlike_30 rfl (v4 + 1) rfl (by decide) rfl rfl rfl ?_
        refine sx_goto (tgt := 3) hX d_Ta_areAlike_33 (by decide) ?_
        exact ih v1 v2 v3 (v4 + 1) _ _ h
      · replace h := sx_f h hc4
        refine sx_iconst (v := 0) (pc2 := 29) hX d_Ta_areAlike_28 (by decide) rfl ?_
        exact sx_zret hX hE (by decide) h d_Ta_areAlike_29
set_option maxRecDepth 100000 in
set_option maxHeartbeats 4000000 in
theorem c_Ta_areAlike {l : Launch} {K : sx_K} (hK : kx_C K) (x1 : Int32) (x2 : Int32) (x3 : Int32) (σ : sx_M) (τ : sx_L) (Q : Int32 → sx_M → Prop)  (h : wp_Ta_areAlike x1 x2 x3 σ Q) : Met l y_Ta_areAlike (sx_wd y_Ta_areAlike prog_9_method_10_code 5 (some .boolean)) rm_Ta_areAlike (sx_Pc K [.ref (K.2.2.1 1 0 0), .int x1, .int x2, .int x3] σ τ) (sx_Qi K (fun r σ _ => Q r σ)) 0 0 (sx_A K) := by
  refine sx_met (by decide) (Nat.le_of_ble_eq_true rfl) (fun X hX hE => ?_)
  replace hX : sx_C X K prog_9_method_10_code 5 "SensorTree$Tape" (some .boolean) rm_Ta_areAlike l := hX
  show sx_G X K 5 0 [(0, .ref (K.2.2.1 1 0 0)), (1, .int x1), (2, .int x2), (3, .int x3)] [] (sx_H K σ τ)
  unfold wp_Ta_areAlike at h
  refine sx_iconst (v := 0) (pc2 := 1) hX d_Ta_areAlike_0 (by decide) rfl ?_
  refine sx_istore (pc2 := 3) hX _ [(0, .ref (K.2.2.1 1 0 0)), (1, .int x1), (2, .int x2), (3, .int x3), (4, .int 0)] [1, 2, 3, 4, 0] d_Ta_areAlike_1 (by decide) rfl rfl rfl ?_
  obtain ⟨f3, h⟩ := h
  exact g_Ta_areAlike_b3 hX hK hE   f3 x1 x2 x3 0 _ _ h
theorem cl_Re_117 {X : sx_T} {K : sx_K} {cc : ByteArray} {nL : Nat} {ret : Option FieldType} {rm : Room} {l : Launch} {pc pc2 : Nat} {lv : List (Nat × Value)} {st : List Value} {σ : sx_M} {τ : sx_L} {x1 : Int32} {x2 : Int32} {x3 : Int32} {Q : Int32 → sx_M → Prop} (hX : sx_C X K cc nL "SensorTree$Reader" ret rm l) (hK : kx_C K) (h : wp_Ta_areAlike x1 x2 x3 σ Q)  (hR : rm_Ta_areAlike.frames + 1 ≤ rm.frames ∧ 8 + (5 + 11) + rm_Ta_areAlike.locals ≤ rm.locals) (hst : (st.map fun v => v.category).sum ≤ 8) (hd : decode cc pc = .ok (.invokevirtual 117, 3)) (hpc : pc + 3 = pc2) (kk : ∀ (r : Int32) (σ2 : sx_M) (τ2 : sx_L), Q r σ2 → sx_G X K nL pc2 lv (.int r :: st) (sx_H K σ2 τ2)) : sx_G X K nL pc lv (.int x3 :: .int x2 :: .int x1 :: .ref (K.2.2.1 1 0 0) :: st) (sx_H K σ τ) :=
  sx_callVi (Q := fun r σ _ => Q r σ) (As := [.int x1, .int x2, .int x3]) hX (c_Ta_areAlike hK x1 x2 x3 σ τ Q  h) (hK 1 0 0 (by decide) (by decide)) rfl rfl lk_190 lk_191 hy_Ta_areAlike lk_188 lk_131 lk_189 ⟨rfl, rfl⟩ hR hst rfl hd hpc kk
