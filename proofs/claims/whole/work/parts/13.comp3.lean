def y_Re_postNamed : MethodName := ⟨"SensorTree$Reader", "postNamed", "(LSensorTree$Tape;I)I"⟩
theorem hy_Re_postNamed : y_Re_postNamed.cls ≠ "java/lang/invoke/MethodHandle" ∧ y_Re_postNamed.cls ≠ "java/lang/invoke/VarHandle" ∧ (parseMethodDescriptor y_Re_postNamed.desc).map (fun d => d.parameters.length) = some 2 := by decide +kernel
theorem d_Re_postNamed_0 : decode prog_8_method_9_code 0 = .ok (.aload_n 0, 1) := by decide +kernel
theorem d_Re_postNamed_1 : decode prog_8_method_9_code 1 = .ok (.getfield 12, 3) := by decide +kernel
theorem d_Re_postNamed_4 : decode prog_8_method_9_code 4 = .ok (.getfield 109, 3) := by decide +kernel
theorem d_Re_postNamed_7 : decode prog_8_method_9_code 7 = .ok (.iload_n 2, 1) := by decide +kernel
theorem d_Re_postNamed_8 : decode prog_8_method_9_code 8 = .ok (.iaload, 1) := by decide +kernel
theorem d_Re_postNamed_9 : decode prog_8_method_9_code 9 = .ok (.istore_n 3, 1) := by decide +kernel
theorem d_Re_postNamed_10 : decode prog_8_method_9_code 10 = .ok (.iconst 0, 1) := by decide +kernel
theorem d_Re_postNamed_11 : decode prog_8_method_9_code 11 = .ok (.istore 4, 2) := by decide +kernel
theorem d_Re_postNamed_13 : decode prog_8_method_9_code 13 = .ok (.iload 4, 2) := by decide +kernel
theorem d_Re_postNamed_15 : decode prog_8_method_9_code 15 = .ok (.aload_n 0, 1) := by decide +kernel
theorem d_Re_postNamed_16 : decode prog_8_method_9_code 16 = .ok (.getfield 21, 3) := by decide +kernel
theorem d_Re_postNamed_19 : decode prog_8_method_9_code 19 = .ok (.getfield 96, 3) := by decide +kernel
theorem d_Re_postNamed_22 : decode prog_8_method_9_code 22 = .ok (.if_icmp .ge 74, 3) := by decide +kernel
theorem d_Re_postNamed_25 : decode prog_8_method_9_code 25 = .ok (.aload_n 0, 1) := by decide +kernel
theorem d_Re_postNamed_26 : decode prog_8_method_9_code 26 = .ok (.getfield 25, 3) := by decide +kernel
theorem d_Re_postNamed_29 : decode prog_8_method_9_code 29 = .ok (.iload 4, 2) := by decide +kernel
theorem d_Re_postNamed_31 : decode prog_8_method_9_code 31 = .ok (.iaload, 1) := by decide +kernel
theorem d_Re_postNamed_32 : decode prog_8_method_9_code 32 = .ok (.istore 5, 2) := by decide +kernel
theorem d_Re_postNamed_34 : decode prog_8_method_9_code 34 = .ok (.aload_n 0, 1) := by decide +kernel
theorem d_Re_postNamed_35 : decode prog_8_method_9_code 35 = .ok (.getfield 12, 3) := by decide +kernel
theorem d_Re_postNamed_38 : decode prog_8_method_9_code 38 = .ok (.getfield 109, 3) := by decide +kernel
theorem d_Re_postNamed_41 : decode prog_8_method_9_code 41 = .ok (.iload 5, 2) := by decide +kernel
theorem d_Re_postNamed_43 : decode prog_8_method_9_code 43 = .ok (.iaload, 1) := by decide +kernel
theorem d_Re_postNamed_44 : decode prog_8_method_9_code 44 = .ok (.iload_n 3, 1) := by decide +kernel
theorem d_Re_postNamed_45 : decode prog_8_method_9_code 45 = .ok (.if_icmp .ne 34, 3) := by decide +kernel
theorem d_Re_postNamed_48 : decode prog_8_method_9_code 48 = .ok (.aload_n 1, 1) := by decide +kernel
theorem d_Re_postNamed_49 : decode prog_8_method_9_code 49 = .ok (.aload_n 0, 1) := by decide +kernel
theorem d_Re_postNamed_50 : decode prog_8_method_9_code 50 = .ok (.getfield 12, 3) := by decide +kernel
theorem d_Re_postNamed_53 : decode prog_8_method_9_code 53 = .ok (.getfield 107, 3) := by decide +kernel
theorem d_Re_postNamed_56 : decode prog_8_method_9_code 56 = .ok (.iload 5, 2) := by decide +kernel
theorem d_Re_postNamed_58 : decode prog_8_method_9_code 58 = .ok (.iaload, 1) := by decide +kernel
theorem d_Re_postNamed_59 : decode prog_8_method_9_code 59 = .ok (.aload_n 0, 1) := by decide +kernel
theorem d_Re_postNamed_60 : decode prog_8_method_9_code 60 = .ok (.getfield 12, 3) := by decide +kernel
theorem d_Re_postNamed_63 : decode prog_8_method_9_code 63 = .ok (.getfield 107, 3) := by decide +kernel
theorem d_Re_postNamed_66 : decode prog_8_method_9_code 66 = .ok (.iload_n 2, 1) := by decide +kernel
theorem d_Re_postNamed_67 : decode prog_8_method_9_code 67 = .ok (.iaload, 1) := by decide +kernel
theorem d_Re_postNamed_68 : decode prog_8_method_9_code 68 = .ok (.iload_n 3, 1) := by decide +kernel
theorem d_Re_postNamed_69 : decode prog_8_method_9_code 69 = .ok (.invokevirtual 117, 3) := by decide +kernel
theorem d_Re_postNamed_72 : decode prog_8_method_9_code 72 = .ok (.ifCond .eq 7, 3) := by decide +kernel
theorem d_Re_postNamed_75 : decode prog_8_method_9_code 75 = .ok (.iconst 1, 1) := by decide +kernel
theorem d_Re_postNamed_76 : decode prog_8_method_9_code 76 = .ok (.goto 4, 3) := by decide +kernel
theorem d_Re_postNamed_79 : decode prog_8_method_9_code 79 = .ok (.iconst 0, 1) := by decide +kernel
theorem d_Re_postNamed_80 : decode prog_8_method_9_code 80 = .ok (.istore 6, 2) := by decide +kernel
theorem d_Re_postNamed_82 : decode prog_8_method_9_code 82 = .ok (.iload 6, 2) := by decide +kernel
theorem d_Re_postNamed_84 : decode prog_8_method_9_code 84 = .ok (.ifCond .eq 6, 3) := by decide +kernel
theorem d_Re_postNamed_87 : decode prog_8_method_9_code 87 = .ok (.iload 4, 2) := by decide +kernel
theorem d_Re_postNamed_89 : decode prog_8_method_9_code 89 = .ok (.ireturn, 1) := by decide +kernel
theorem d_Re_postNamed_90 : decode prog_8_method_9_code 90 = .ok (.iinc 4 1, 3) := by decide +kernel
theorem d_Re_postNamed_93 : decode prog_8_method_9_code 93 = .ok (.goto (-80), 3) := by decide +kernel
theorem d_Re_postNamed_96 : decode prog_8_method_9_code 96 = .ok (.iconst (-1), 1) := by decide +kernel
theorem d_Re_postNamed_97 : decode prog_8_method_9_code 97 = .ok (.ireturn, 1) := by decide +kernel
def wp_Re_postNamed_b80  (k13 : Int32 → Int32 → Int32 → sx_M → Prop) (Q : Int32 → sx_M → Prop) (v2 : Int32) (v3 : Int32) (v4 : Int32) (w0 : Int32) (σ : sx_M) : Prop := if w0 = 0 then (k13 v2 v3 (v4 + 1) σ) else (Q v4 σ)
def wp_Re_postNamed_b79  (k13 : Int32 → Int32 → Int32 → sx_M → Prop) (Q : Int32 → sx_M → Prop) (v2 : Int32) (v3 : Int32) (v4 : Int32) (σ : sx_M) : Prop := wp_Re_postNamed_b80 k13 Q v2 v3 v4 0 σ
def wp_Re_postNamed_b13   (Q : Int32 → sx_M → Prop) : Nat → Int32 → Int32 → Int32 → sx_M → Prop
  | 0, _, _, _, _ => False
  | f + 1, v2, v3, v4, σ => if σ 8 1 0 0 ≤ v4 then (Q (-1) σ) else (vp_in v4 7 ∧ (vp_in (σ 15 0 0 v4.toNatClampNeg) 400 ∧ (if σ 7 0 0 (σ 15 0 0 v4.toNatClampNeg).toNatClampNeg = v3 then (vp_in (σ 15 0 0 v4.toNatClampNeg) 400 ∧ (vp_in v2 400 ∧ (wp_Ta_areAlike (σ 6 0 0 (σ 15 0 0 v4.toNatClampNeg).toNatClampNeg) (σ 6 0 0 v2.toNatClampNeg) v3 σ (fun r8 σ8 => if r8 = 0 then (wp_Re_postNamed_b79 (wp_Re_postNamed_b13 Q f) Q v2 v3 v4 σ8) else (wp_Re_postNamed_b80 (wp_Re_postNamed_b13 Q f) Q v2 v3 v4 1 σ8))))) else (wp_Re_postNamed_b79 (wp_Re_postNamed_b13 Q f) Q v2 v3 v4 σ))))
def wp_Re_postNamed (x2 : Int32) (σ : sx_M) (Q : Int32 → sx_M → Prop) : Prop := vp_in x2 400 ∧ (∃ f13, wp_Re_postNamed_b13 Q f13 x2 (σ 7 0 0 x2.toNatClampNeg) 0 σ)
abbrev rm_Re_postNamed : Room := { frames := 2, cells := 0, slots := 0, locals := 45 }
set_option maxRecDepth 100000 in
set_option maxHeartbeats 4000000 in
theorem g_Re_postNamed_b80 {l : Launch} {K : sx_K} {X : sx_T}  {k13 : Int32 → Int32 → Int32 → sx_M → Prop} {Q : Int32 → sx_M → Prop} (hX : sx_C X K prog_8_method_9_code 7 "SensorTree$Reader" (some .int) rm_Re_postNamed l) (hK : kx_C K) (hE : sx_E X K (sx_Qi K (fun r σ _ => Q r σ)))  (hk13 : ∀ (v2 : Int32) (v3 : Int32) (v4 : Int32) (σ : sx_M) (τ : sx_L) , k13 v2 v3 v4 σ → sx_G X K 7 13 [(0, .ref (K.2.2.1 3 0 0)), (1, .ref (K.2.2.1 1 0 0)), (2, .int v2), (3, .int v3), (4, .int v4)] [] (sx_H K σ τ)) (v2 : Int32) (v3 : Int32) (v4 : Int32) (w0 : Int32) (σ : sx_M) (τ : sx_L)  (h : wp_Re_postNamed_b80 k13 Q  v2 v3 v4 w0 σ) : sx_G X K 7 80 [(0, .ref (K.2.2.1 3 0 0)), (1, .ref (K.2.2.1 1 0 0)), (2, .int v2), (3, .int v3), (4, .int v4)] [.int w0] (sx_H K σ τ) := by
  unfold wp_Re_postNamed_b80 at h
  refine sx_istore (pc2 := 82) hX _ [(0, .ref (K.2.2.1 3 0 0)), (1, .ref (K.2.2.1 1 0 0)), (2, .int v2), (3, .int v3), (4, .int v4), (6, .int w0)] [1, 2, 3, 4, 5, 0] d_Re_postNamed_80 (by decide) rfl rfl rfl ?_
  refine sx_iload (pc2 := 84) hX 5 d_Re_postNamed_82 rfl rfl ?_
  refine sx_if_eq (tgt := 90) (pc2 := 87) hX d_Re_postNamed_84 (by decide) rfl (fun hc1 => ?_) (fun hc1 => ?_)
  · replace h := sx_t h hc1
    refine sx_iinc (pc2 := 93) hX 4 _ [(0, .ref (K.2.2.1 3 0 0)), (1, .ref (K.2.2.1 1 0 0)), (2, .int v2), (3, .int v3), (4, .int (v4 + 1)), (6, .int w0)] [1, 2, 3, 4, 0, 5] d_Re_postNamed_90 rfl (v4 + 1) rfl (by decide) rfl rfl rfl ?_
    refine sx_goto (tgt := 13) hX d_Re_postNamed_93 (by decide) ?_
    refine sx_sub [(0, .ref (K.2.2.1 3 0 0)), (1, .ref (K.2.2.1 1 0 0)), (2, .int v2), (3, .int v3), (4, .int (v4 + 1))] [0, 1, 2, 3, 4] rfl ?_
    exact hk13 v2 v3 (v4 + 1) _ _ h
  · replace h := sx_f h hc1
    refine sx_iload (pc2 := 89) hX 4 d_Re_postNamed_87 rfl rfl ?_
    exact sx_iret hX hE h d_Re_postNamed_89
set_option maxRecDepth 100000 in
set_option maxHeartbeats 4000000 in
theorem g_Re_postNamed_b79 {l : Launch} {K : sx_K} {X : sx_T}  {k13 : Int32 → Int32 → Int32 → sx_M → Prop} {Q : Int32 → sx_M → Prop} (hX : sx_C X K prog_8_method_9_code 7 "SensorTree$Reader" (some .int) rm_Re_postNamed l) (hK : kx_C K) (hE : sx_E X K (sx_Qi K (fun r σ _ => Q r σ)))  (hk13 : ∀ (v2 : Int32) (v3 : Int32) (v4 : Int32) (σ : sx_M) (τ : sx_L) , k13 v2 v3 v4 σ → sx_G X K 7 13 [(0, .ref (K.2.2.1 3 0 0)), (1, .ref (K.2.2.1 1 0 0)), (2, .int v2), (3, .int v3), (4, .int v4)] [] (sx_H K σ τ)) (v2 : Int32) (v3 : Int32) (v4 : Int32) (σ : sx_M) (τ : sx_L)  (h : wp_Re_postNamed_b79 k13 Q  v2 v3 v4 σ) : sx_G X K 7 79 [(0, .ref (K.2.2.1 3 0 0)), (1, .ref (K.2.2.1 1 0 0)), (2, .int v2), (3, .int v3), (4, .int v4)] [] (sx_H K σ τ) := by
  unfold wp_Re_postNamed_b79 at h
  refine sx_iconst (v := 0) (pc2 := 80) hX d_Re_postNamed_79 (by decide) rfl ?_
  exact g_Re_postNamed_b80 hX hK hE  hk13 v2 v3 v4 0 _ _ h
set_option maxRecDepth 100000 in
set_option maxHeartbeats 4000000 in
theorem g_Re_postNamed_b13 {l : Launch} {K : sx_K} {X : sx_T}   {Q : Int32 → sx_M → Prop} (hX : sx_C X K prog_8_method_9_code 7 "SensorTree$Reader" (some .int) rm_Re_postNamed l) (hK : kx_C K) (hE : sx_E X K (sx_Qi K (fun r σ _ => Q r σ)))  : ∀ (f : Nat) (v2 : Int32) (v3 : Int32) (v4 : Int32) (σ : sx_M) (τ : sx_L) , wp_Re_postNamed_b13 Q f v2 v3 v4 σ → sx_G X K 7 13 [(0, .ref (K.2.2.1 3 0 0)), (1, .ref (K.2.2.1 1 0 0)), (2, .int v2), (3, .int v3), (4, .int v4)] [] (sx_H K σ τ) := by
  intro f
  induction f with
  | zero => intro v2 v3 v4 σ τ h; exact (show False from h).elim
  | succ f ih =>
    intro v2 v3 v4 σ τ h
    rw [wp_Re_postNamed_b13] at h
    refine sx_iload (pc2 := 15) hX 4 d_Re_postNamed_13 rfl rfl ?_
    refine sx_aload_n (pc2 := 16) hX 0 d_Re_postNamed_15 rfl rfl rfl ?_
    refine fg_Re_21 (pc2 := 19) hX (hK 3 0 0 (by decide) (by decide)) d_Re_postNamed_16 rfl ?_
    refine fg_Re_96 (pc2 := 22) hX (hK 8 1 0 (by decide) (by decide)) d_Re_postNamed_19 rfl ?_
    refine sx_icmp_ge (tgt := 96) (pc2 := 25) hX d_Re_postNamed_22 (by decide) rfl (fun hc2 => ?_) (fun hc2 => ?_)
    · replace h := sx_t h hc2
      refine sx_iconst (v := (-1)) (pc2 := 97) hX d_Re_postNamed_96 (by decide) rfl ?_
      exact sx_iret hX hE h d_Re_postNamed_97
    · replace h := sx_f h hc2
      refine sx_aload_n (pc2 := 26) hX 0 d_Re_postNamed_25 rfl rfl rfl ?_
      refine fg_Re_25 (pc2 := 29) hX (hK 3 0 0 (by decide) (by decide)) d_Re_postNamed_26 rfl ?_
      refine sx_iload (pc2 := 31) hX 4 d_Re_postNamed_29 rfl rfl ?_
      obtain ⟨hc3, h⟩ := h
      refine sx_iald (pc2 := 32) hX (hK 15 0 0 (by decide) (by decide)) rfl hc3 d_Re_postNamed_31 rfl ?_
      refine sx_istore (pc2 := 34) hX _ [(0, .ref (K.2.2.1 3 0 0)), (1, .ref (K.2.2.1 1 0 0)), (2, .int v2), (3, .int v3), (4, .int v4), (5, .int (σ 15 0 0 v4.toNatClampNeg))] [1, 2, 3, 4, 5, 0] d_Re_postNamed_32 (by decide) rfl rfl rfl ?_
      refine sx_aload_n (pc2 := 35) hX 0 d_Re_postNamed_34 rfl rfl rfl ?_
      refine fg_Re_12 (pc2 := 38) hX (hK 3 0 0 (by decide) (by decide)) d_Re_postNamed_35 rfl ?_
      refine fg_Re_109 (pc2 := 41) hX (hK 4 0 0 (by decide) (by decide)) d_Re_postNamed_38 rfl ?_
      refine sx_iload (pc2 := 43) hX 5 d_Re_postNamed_41 rfl rfl ?_
      obtain ⟨hc4, h⟩ := h
      refine sx_iald (pc2 := 44) hX (hK 7 0 0 (by decide) (by decide)) rfl hc4 d_Re_postNamed_43 rfl ?_
      refine sx_iload_n (pc2 := 45) hX 3 d_Re_postNamed_44 rfl rfl rfl ?_
      refine sx_icmp_ne (tgt := 79) (pc2 := 48) hX d_Re_postNamed_45 (by decide) rfl (fun hc5 => ?_) (fun hc5 => ?_)
      · replace h := sx_f h hc5
        refine sx_sub [(0, .ref (K.2.2.1 3 0 0)), (1, .ref (K.2.2.1 1 0 0)), (2, .int v2), (3, .int v3), (4, .int v4)] [0, 1, 2, 3, 4] rfl ?_
        exact g_Re_postNamed_b79 hX hK hE  ih v2 v3 v4 _ _ h
      · replace h := sx_t h hc5
        refine sx_aload_n (pc2 := 49) hX 1 d_Re_postNamed_48 rfl rfl rfl ?_
        refine sx_aload_n (pc2 := 50) hX 0 d_Re_postNamed_49 rfl rfl rfl ?_
        refine fg_Re_12 (pc2 := 53) hX (hK 3 0 0 (by decide) (by decide)) d_Re_postNamed_50 rfl ?_
        refine fg_Re_107 (pc2 := 56) hX (hK 4 0 0 (by decide) (by decide)) d_Re_postNamed_53 rfl ?_
        refine sx_iload (pc2 := 58) hX 5 d_Re_postNamed_56 rfl rfl ?_
        obtain ⟨hc6, h⟩ := h
        refine sx_iald (pc2 := 59) hX (hK 6 0 0 (by decide) (by decide)) rfl hc6 d_Re_postNamed_58 rfl ?_
        refine sx_aload_n (pc2 := 60) hX 0 d_Re_postNamed_59 rfl rfl rfl ?_
        refine fg_Re_12 (pc2 := 63) hX (hK 3 0 0 (by decide) (by decide)) d_Re_postNamed_60 rfl ?_
        refine fg_Re_107 (pc2 := 66) hX (hK 4 0 0 (by decide) (by decide)) d_Re_postNamed_63 rfl ?_
        refine sx_iload_n (pc2 := 67) hX 2 d_Re_postNamed_66 rfl rfl rfl ?_
        obtain ⟨hc7, h⟩ := h
        refine sx_iald (pc2 := 68) hX (hK 6 0 0 (by decide) (by decide)) rfl hc7 d_Re_postNamed_67 rfl ?_
        refine sx_iload_n (pc2 := 69) hX 3 d_Re_postNamed_68 rfl rfl rfl ?_
        refine cl_Re_117 (pc2 := 72) hX hK h  ⟨Nat.le_of_ble_eq_true rfl, Nat.le_of_ble_eq_true rfl⟩ (Nat.le_of_ble_eq_true rfl) d_Re_postNamed_69 rfl (fun r8 σ8 τ8 h => ?_)
        refine sx_if_eq (tgt := 79) (pc2 := 75) hX d_Re_postNamed_72 (by decide) rfl (fun hc9 => ?_) (fun hc9 => ?_)
        · replace h := sx_t h hc9
          refine sx_sub [(0, .ref (K.2.2.1 3 0 0)), (1, .ref (K.2.2.1 1 0 0)), (2, .int v2), (3, .int v3), (4, .int v4)] [0, 1, 2, 3, 4] rfl ?_
          exact g_Re_postNamed_b79 hX hK hE  ih v2 v3 v4 _ _ h
        · replace h := sx_f h hc9
          refine sx_iconst (v := 1) (pc2 := 76) hX d_Re_postNamed_75 (by decide) rfl ?_
          refine sx_goto (tgt := 80) hX d_Re_postNamed_76 (by decide) ?_
          refine sx_sub [(0, .ref (K.2.2.1 3 0 0)), (1, .ref (K.2.2.1 1 0 0)), (2, .int v2), (3, .int v3), (4, .int v4)] [0, 1, 2, 3, 4] rfl ?_
          exact g_Re_postNamed_b80 hX hK hE  ih v2 v3 v4 1 _ _ h
set_option maxRecDepth 100000 in
set_option maxHeartbeats 4000000 in
theorem c_Re_postNamed {l : Launch} {K : sx_K} (hK : kx_C K) (x2 : Int32) (σ : sx_M) (τ : sx_L) (Q : Int32 → sx_M → Prop)  (h : wp_Re_postNamed x2 σ Q) : Met l y_Re_postNamed (sx_wd y_Re_postNamed prog_8_method_9_code 7 (some .int)) rm_Re_postNamed (sx_Pc K [.ref (K.2.2.1 3 0 0), .ref (K.2.2.1 1 0 0), .int x2] σ τ) (sx_Qi K (fun r σ _ => Q r σ)) 0 0 (sx_A K) := by
  refine sx_met (by decide) (Nat.le_of_ble_eq_true rfl) (fun X hX hE => ?_)
  replace hX : sx_C X K prog_8_method_9_code 7 "SensorTree$Reader" (some .int) rm_Re_postNamed l := hX
  show sx_G X K 7 0 [(0, .ref (K.2.2.1 3 0 0)), (1, .ref (K.2.2.1 1 0 0)), (2, .int x2)] [] (sx_H K σ τ)
  unfold wp_Re_postNamed at h
  refine sx_aload_n (pc2 := 1) hX 0 d_Re_postNamed_0 rfl rfl rfl ?_
  refine fg_Re_12 (pc2 := 4) hX (hK 3 0 0 (by decide) (by decide)) d_Re_postNamed_1 rfl ?_
  refine fg_Re_109 (pc2 := 7) hX (hK 4 0 0 (by decide) (by decide)) d_Re_postNamed_4 rfl ?_
  refine sx_iload_n (pc2 := 8) hX 2 d_Re_postNamed_7 rfl rfl rfl ?_
  obtain ⟨hc10, h⟩ := h
  refine sx_iald (pc2 := 9) hX (hK 7 0 0 (by decide) (by decide)) rfl hc10 d_Re_postNamed_8 rfl ?_
  refine sx_istore_n (pc2 := 10) hX _ [(0, .ref (K.2.2.1 3 0 0)), (1, .ref (K.2.2.1 1 0 0)), (2, .int x2), (3, .int (σ 7 0 0 x2.toNatClampNeg))] [1, 2, 3, 0] d_Re_postNamed_9 rfl (by decide) rfl rfl rfl ?_
  refine sx_iconst (v := 0) (pc2 := 11) hX d_Re_postNamed_10 (by decide) rfl ?_
  refine sx_istore (pc2 := 13) hX _ [(0, .ref (K.2.2.1 3 0 0)), (1, .ref (K.2.2.1 1 0 0)), (2, .int x2), (3, .int (σ 7 0 0 x2.toNatClampNeg)), (4, .int 0)] [1, 2, 3, 4, 0] d_Re_postNamed_11 (by decide) rfl rfl rfl ?_
  obtain ⟨f13, h⟩ := h
  exact g_Re_postNamed_b13 hX hK hE   f13 x2 (σ 7 0 0 x2.toNatClampNeg) 0 _ _ h
theorem cl_Re_93 {X : sx_T} {K : sx_K} {cc : ByteArray} {nL : Nat} {ret : Option FieldType} {rm : Room} {l : Launch} {pc pc2 : Nat} {lv : List (Nat × Value)} {st : List Value} {σ : sx_M} {τ : sx_L} {x2 : Int32} {Q : Int32 → sx_M → Prop} (hX : sx_C X K cc nL "SensorTree$Reader" ret rm l) (hK : kx_C K) (h : wp_Re_postNamed x2 σ Q)  (hR : rm_Re_postNamed.frames + 1 ≤ rm.frames ∧ 8 + (7 + 11) + rm_Re_postNamed.locals ≤ rm.locals) (hst : (st.map fun v => v.category).sum ≤ 8) (hd : decode cc pc = .ok (.invokevirtual 93, 3)) (hpc : pc + 3 = pc2) (kk : ∀ (r : Int32) (σ2 : sx_M) (τ2 : sx_L), Q r σ2 → sx_G X K nL pc2 lv (.int r :: st) (sx_H K σ2 τ2)) : sx_G X K nL pc lv (.int x2 :: .ref (K.2.2.1 1 0 0) :: .ref (K.2.2.1 3 0 0) :: st) (sx_H K σ τ) :=
  sx_callVi (Q := fun r σ _ => Q r σ) (As := [.ref (K.2.2.1 1 0 0), .int x2]) hX (c_Re_postNamed hK x2 σ τ Q  h) (hK 3 0 0 (by decide) (by decide)) rfl rfl lk_198 ls_9 hy_Re_postNamed lk_196 lk_192 lk_197 ⟨rfl, rfl⟩ hR hst rfl hd hpc kk
def y_Re_blame : MethodName := ⟨"SensorTree$Reader", "blame", "(II)V"⟩
theorem hy_Re_blame : y_Re_blame.cls ≠ "java/lang/invoke/MethodHandle" ∧ y_Re_blame.cls ≠ "java/lang/invoke/VarHandle" ∧ (parseMethodDescriptor y_Re_blame.desc).map (fun d => d.parameters.length) = some 2 := by decide +kernel
theorem d_Re_blame_0 : decode prog_8_method_7_code 0 = .ok (.aload_n 0, 1) := by decide +kernel
theorem d_Re_blame_1 : decode prog_8_method_7_code 1 = .ok (.iload_n 1, 1) := by decide +kernel
theorem d_Re_blame_2 : decode prog_8_method_7_code 2 = .ok (.putfield 29, 3) := by decide +kernel
theorem d_Re_blame_5 : decode prog_8_method_7_code 5 = .ok (.aload_n 0, 1) := by decide +kernel
theorem d_Re_blame_6 : decode prog_8_method_7_code 6 = .ok (.aload_n 0, 1) := by decide +kernel
theorem d_Re_blame_7 : decode prog_8_method_7_code 7 = .ok (.getfield 12, 3) := by decide +kernel
theorem d_Re_blame_10 : decode prog_8_method_7_code 10 = .ok (.getfield 107, 3) := by decide +kernel
theorem d_Re_blame_13 : decode prog_8_method_7_code 13 = .ok (.iload_n 2, 1) := by decide +kernel
theorem d_Re_blame_14 : decode prog_8_method_7_code 14 = .ok (.iaload, 1) := by decide +kernel
theorem d_Re_blame_15 : decode prog_8_method_7_code 15 = .ok (.putfield 33, 3) := by decide +kernel
theorem d_Re_blame_18 : decode prog_8_method_7_code 18 = .ok (.return_, 1) := by decide +kernel
def wp_Re_blame (x1 : Int32) (x2 : Int32) (σ : sx_M) (Q : sx_M → Prop) : Prop := ∀ σ1 : sx_M, σ1 = sx_u σ 3 0 0 3 x1 → (vp_in x2 400 ∧ (∀ σ3 : sx_M, σ3 = sx_u σ1 3 0 0 4 (σ1 6 0 0 x2.toNatClampNeg) → (Q σ3)))
abbrev rm_Re_blame : Room := { frames := 0, cells := 0, slots := 0, locals := 0 }
set_option maxRecDepth 100000 in
set_option maxHeartbeats 4000000 in
theorem c_Re_blame {l : Launch} {K : sx_K} (hK : kx_C K) (x1 : Int32) (x2 : Int32) (σ : sx_M) (τ : sx_L) (Q : sx_M → Prop)  (h : wp_Re_blame x1 x2 σ Q) : Met l y_Re_blame (sx_wd y_Re_blame prog_8_method_7_code 3 none) rm_Re_blame (sx_Pc K [.ref (K.2.2.1 3 0 0), .int x1, .int x2] σ τ) (sx_Qv K (fun σ _ => Q σ)) 0 0 (sx_A K) := by
  refine sx_met (by decide) (Nat.le_of_ble_eq_true rfl) (fun X hX hE => ?_)
  replace hX : sx_C X K prog_8_method_7_code 3 "SensorTree$Reader" none rm_Re_blame l := hX
  show sx_G X K 3 0 [(0, .ref (K.2.2.1 3 0 0)), (1, .int x1), (2, .int x2)] [] (sx_H K σ τ)
  unfold wp_Re_blame at h
  refine sx_aload_n (pc2 := 1) hX 0 d_Re_blame_0 rfl rfl rfl ?_
  refine sx_iload_n (pc2 := 2) hX 1 d_Re_blame_1 rfl rfl rfl ?_
  refine fp_Re_29 (pc2 := 5) hX (hK 3 0 0 (by decide) (by decide)) d_Re_blame_2 rfl ?_
  refine sx_nm (fun σ1 e1 => ?_)
  replace h := h σ1 e1
  refine sx_aload_n (pc2 := 6) hX 0 d_Re_blame_5 rfl rfl rfl ?_
  refine sx_aload_n (pc2 := 7) hX 0 d_Re_blame_6 rfl rfl rfl ?_
  refine fg_Re_12 (pc2 := 10) hX (hK 3 0 0 (by decide) (by decide)) d_Re_blame_7 rfl ?_
  refine fg_Re_107 (pc2 := 13) hX (hK 4 0 0 (by decide) (by decide)) d_Re_blame_10 rfl ?_
  refine sx_iload_n (pc2 := 14) hX 2 d_Re_blame_13 rfl rfl rfl ?_
  obtain ⟨hc2, h⟩ := h
  refine sx_iald (pc2 := 15) hX (hK 6 0 0 (by decide) (by decide)) rfl hc2 d_Re_blame_14 rfl ?_
  refine fp_Re_33 (pc2 := 18) hX (hK 3 0 0 (by decide) (by decide)) d_Re_blame_15 rfl ?_
  refine sx_nm (fun σ3 e3 => ?_)
  replace h := h σ3 e3
  exact sx_vret hX hE h d_Re_blame_18
theorem cl_Re_89 {X : sx_T} {K : sx_K} {cc : ByteArray} {nL : Nat} {ret : Option FieldType} {rm : Room} {l : Launch} {pc pc2 : Nat} {lv : List (Nat × Value)} {st : List Value} {σ : sx_M} {τ : sx_L} {x1 : Int32} {x2 : Int32} {Q : sx_M → Prop} (hX : sx_C X K cc nL "SensorTree$Reader" ret rm l) (hK : kx_C K) (h : wp_Re_blame x1 x2 σ Q)  (hR : rm_Re_blame.frames + 1 ≤ rm.frames ∧ 8 + (3 + 11) + rm_Re_blame.locals ≤ rm.locals) (hst : (st.map fun v => v.category).sum ≤ 8) (hd : decode cc pc = .ok (.invokevirtual 89, 3)) (hpc : pc + 3 = pc2) (kk : ∀ (σ2 : sx_M) (τ2 : sx_L), Q σ2 → sx_G X K nL pc2 lv (st) (sx_H K σ2 τ2)) : sx_G X K nL pc lv (.int x2 :: .int x1 :: .ref (K.2.2.1 3 0 0) :: st) (sx_H K σ τ) :=
  sx_callVv (Q := fun σ _ => Q σ) (As := [.int x1, .int x2]) hX (c_Re_blame hK x1 x2 σ τ Q  h) (hK 3 0 0 (by decide) (by decide)) rfl rfl lk_195 ls_10 hy_Re_blame lk_193 lk_192 lk_194 ⟨rfl, rfl⟩ hR hst rfl hd hpc kk
def y_Re_tellPost : MethodName := ⟨"SensorTree$Reader", "tellPost", "(LSensorTree$Tape;I)V"⟩
theorem hy_Re_tellPost : y_Re_tellPost.cls ≠ "java/lang/invoke/MethodHandle" ∧ y_Re_tellPost.cls ≠ "java/lang/invoke/VarHandle" ∧ (parseMethodDescriptor y_Re_tellPost.desc).map (fun d => d.parameters.length) = some 2 := by decide +kernel
theorem d_Re_tellPost_0 : decode prog_8_method_5_code 0 = .ok (.aload_n 0, 1) := by decide +kernel
theorem d_Re_tellPost_1 : decode prog_8_method_5_code 1 = .ok (.aload_n 1, 1) := by decide +kernel
theorem d_Re_tellPost_2 : decode prog_8_method_5_code 2 = .ok (.iload_n 2, 1) := by decide +kernel
theorem d_Re_tellPost_3 : decode prog_8_method_5_code 3 = .ok (.invokevirtual 93, 3) := by decide +kernel
theorem d_Re_tellPost_6 : decode prog_8_method_5_code 6 = .ok (.iconst (-1), 1) := by decide +kernel
theorem d_Re_tellPost_7 : decode prog_8_method_5_code 7 = .ok (.if_icmp .ne 15, 3) := by decide +kernel
theorem d_Re_tellPost_10 : decode prog_8_method_5_code 10 = .ok (.aload_n 0, 1) := by decide +kernel
theorem d_Re_tellPost_11 : decode prog_8_method_5_code 11 = .ok (.getfield 21, 3) := by decide +kernel
theorem d_Re_tellPost_14 : decode prog_8_method_5_code 14 = .ok (.getfield 96, 3) := by decide +kernel
theorem d_Re_tellPost_17 : decode prog_8_method_5_code 17 = .ok (.bipush 7, 2) := by decide +kernel
theorem d_Re_tellPost_19 : decode prog_8_method_5_code 19 = .ok (.if_icmp .lt 10, 3) := by decide +kernel
theorem d_Re_tellPost_22 : decode prog_8_method_5_code 22 = .ok (.aload_n 0, 1) := by decide +kernel
theorem d_Re_tellPost_23 : decode prog_8_method_5_code 23 = .ok (.iconst 3, 1) := by decide +kernel
theorem d_Re_tellPost_24 : decode prog_8_method_5_code 24 = .ok (.iload_n 2, 1) := by decide +kernel
theorem d_Re_tellPost_25 : decode prog_8_method_5_code 25 = .ok (.invokevirtual 89, 3) := by decide +kernel
theorem d_Re_tellPost_28 : decode prog_8_method_5_code 28 = .ok (.return_, 1) := by decide +kernel
theorem d_Re_tellPost_29 : decode prog_8_method_5_code 29 = .ok (.aload_n 0, 1) := by decide +kernel
theorem d_Re_tellPost_30 : decode prog_8_method_5_code 30 = .ok (.getfield 25, 3) := by decide +kernel
theorem d_Re_tellPost_33 : decode prog_8_method_5_code 33 = .ok (.aload_n 0, 1) := by decide +kernel
theorem d_Re_tellPost_34 : decode prog_8_method_5_code 34 = .ok (.getfield 21, 3) := by decide +kernel
theorem d_Re_tellPost_37 : decode prog_8_method_5_code 37 = .ok (.getfield 96, 3) := by decide +kernel
theorem d_Re_tellPost_40 : decode prog_8_method_5_code 40 = .ok (.iload_n 2, 1) := by decide +kernel
theorem d_Re_tellPost_41 : decode prog_8_method_5_code 41 = .ok (.iastore, 1) := by decide +kernel
theorem d_Re_tellPost_42 : decode prog_8_method_5_code 42 = .ok (.aload_n 0, 1) := by decide +kernel
theorem d_Re_tellPost_43 : decode prog_8_method_5_code 43 = .ok (.getfield 21, 3) := by decide +kernel
theorem d_Re_tellPost_46 : decode prog_8_method_5_code 46 = .ok (.dup, 1) := by decide +kernel
theorem d_Re_tellPost_47 : decode prog_8_method_5_code 47 = .ok (.getfield 96, 3) := by decide +kernel
theorem d_Re_tellPost_50 : decode prog_8_method_5_code 50 = .ok (.iconst 1, 1) := by decide +kernel
theorem d_Re_tellPost_51 : decode prog_8_method_5_code 51 = .ok (.iadd, 1) := by decide +kernel
theorem d_Re_tellPost_52 : decode prog_8_method_5_code 52 = .ok (.putfield 96, 3) := by decide +kernel
theorem d_Re_tellPost_55 : decode prog_8_method_5_code 55 = .ok (.return_, 1) := by decide +kernel
def wp_Re_tellPost_b22   (Q : sx_M → Prop) (v2 : Int32) (σ : sx_M) : Prop := wp_Re_blame (3 : Int32) v2 σ (fun σ1 => Q σ1)
def wp_Re_tellPost (x2 : Int32) (σ : sx_M) (Q : sx_M → Prop) : Prop := wp_Re_postNamed x2 σ (fun r2 σ2 => if r2 = (-1) then (if σ2 8 1 0 0 < 7 then (vp_in (σ2 8 1 0 0) 7 ∧ (∀ σ6 : sx_M, σ6 = sx_u σ2 15 0 0 (σ2 8 1 0 0).toNatClampNeg x2 → (∀ σ7 : sx_M, σ7 = sx_u σ6 8 1 0 0 ((σ6 8 1 0 0) + 1) → (Q σ7)))) else (wp_Re_tellPost_b22 Q x2 σ2)) else (wp_Re_tellPost_b22 Q x2 σ2))
abbrev rm_Re_tellPost : Room := { frames := 3, cells := 0, slots := 0, locals := 71 }
set_option maxRecDepth 100000 in
set_option maxHeartbeats 4000000 in
theorem g_Re_tellPost_b22 {l : Launch} {K : sx_K} {X : sx_T}   {Q : sx_M → Prop} (hX : sx_C X K prog_8_method_5_code 3 "SensorTree$Reader" none rm_Re_tellPost l) (hK : kx_C K) (hE : sx_E X K (sx_Qv K (fun σ _ => Q σ)))  (v2 : Int32) (σ : sx_M) (τ : sx_L)  (h : wp_Re_tellPost_b22 Q  v2 σ) : sx_G X K 3 22 [(0, .ref (K.2.2.1 3 0 0)), (2, .int v2)] [] (sx_H K σ τ) := by
  unfold wp_Re_tellPost_b22 at h
  refine sx_aload_n (pc2 := 23) hX 0 d_Re_tellPost_22 rfl rfl rfl ?_
  refine sx_iconst (v := 3) (pc2 := 24) hX d_Re_tellPost_23 (by decide) rfl ?_
  refine sx_iload_n (pc2 := 25) hX 1 d_Re_tellPost_24 rfl rfl rfl ?_
  refine cl_Re_89 (pc2 := 28) hX hK h  ⟨Nat.le_of_ble_eq_true rfl, Nat.le_of_ble_eq_true rfl⟩ (Nat.le_of_ble_eq_true rfl) d_Re_tellPost_25 rfl (fun σ1 τ1 h => ?_)
  exact sx_vret hX hE h d_Re_tellPost_28
set_option maxRecDepth 100000 in
set_option maxHeartbeats 4000000 in
theorem c_Re_tellPost {l : Launch} {K : sx_K} (hK : kx_C K) (x2 : Int32) (σ : sx_M) (τ : sx_L) (Q : sx_M → Prop)  (h : wp_Re_tellPost x2 σ Q) : Met l y_Re_tellPost (sx_wd y_Re_tellPost prog_8_method_5_code 3 none) rm_Re_tellPost (sx_Pc K [.ref (K.2.2.1 3 0 0), .ref (K.2.2.1 1 0 0), .int x2] σ τ) (sx_Qv K (fun σ _ => Q σ)) 0 0 (sx_A K) := by
  refine sx_met (by decide) (Nat.le_of_ble_eq_true rfl) (fun X hX hE => ?_)
  replace hX : sx_C X K prog_8_method_5_code 3 "SensorTree$Reader" none rm_Re_tellPost l := hX
  show sx_G X K 3 0 [(0, .ref (K.2.2.1 3 0 0)), (1, .ref (K.2.2.1 1 0 0)), (2, .int x2)] [] (sx_H K σ τ)
  unfold wp_Re_tellPost at h
  refine sx_aload_n (pc2 := 1) hX 0 d_Re_tellPost_0 rfl rfl rfl ?_
  refine sx_aload_n (pc2 := 2) hX 1 d_Re_tellPost_1 rfl rfl rfl ?_
  refine sx_iload_n (pc2 := 3) hX 2 d_Re_tellPost_2 rfl rfl rfl ?_
  refine cl_Re_93 (pc2 := 6) hX hK h  ⟨Nat.le_of_ble_eq_true rfl, Nat.le_of_ble_eq_true rfl⟩ (Nat.le_of_ble_eq_true rfl) d_Re_tellPost_3 rfl (fun r2 σ2 τ2 h => ?_)
  refine sx_iconst (v := (-1)) (pc2 := 7) hX d_Re_tellPost_6 (by decide) rfl ?_
  refine sx_icmp_ne (tgt := 22) (pc2 := 10) hX d_Re_tellPost_7 (by decide) rfl (fun hc3 => ?_) (fun hc3 => ?_)
  · replace h := sx_f h hc3
    refine sx_sub [(0, .ref (K.2.2.1 3 0 0)), (2, .int x2)] [0, 2] rfl ?_
    exact g_Re_tellPost_b22 hX hK hE   x2 _ _ h
  · replace h := sx_t h hc3
    refine sx_aload_n (pc2 := 11) hX 0 d_Re_tellPost_10 rfl rfl rfl ?_
    refine fg_Re_21 (pc2 := 14) hX (hK 3 0 0 (by decide) (by decide)) d_Re_tellPost_11 rfl ?_
    refine fg_Re_96 (pc2 := 17) hX (hK 8 1 0 (by decide) (by decide)) d_Re_tellPost_14 rfl ?_
    refine sx_bipush (v := 7) (pc2 := 19) hX d_Re_tellPost_17 (by decide) rfl ?_
    refine sx_icmp_lt (tgt := 29) (pc2 := 22) hX d_Re_tellPost_19 (by decide) rfl (fun hc4 => ?_) (fun hc4 => ?_)
    · replace h := sx_t h hc4
      refine sx_aload_n (pc2 := 30) hX 0 d_Re_tellPost_29 rfl rfl rfl ?_
      refine fg_Re_25 (pc2 := 33) hX (hK 3 0 0 (by decide) (by decide)) d_Re_tellPost_30 rfl ?_
      refine sx_aload_n (pc2 := 34) hX 0 d_Re_tellPost_33 rfl rfl rfl ?_
      refine fg_Re_21 (pc2 := 37) hX (hK 3 0 0 (by decide) (by decide)) d_Re_tellPost_34 rfl ?_
      refine fg_Re_96 (pc2 := 40) hX (hK 8 1 0 (by decide) (by decide)) d_Re_tellPost_37 rfl ?_
      refine sx_iload_n (pc2 := 41) hX 2 d_Re_tellPost_40 rfl rfl rfl ?_
      obtain ⟨hc5, h⟩ := h
      refine sx_iast (pc2 := 42) hX (hK 15 0 0 (by decide) (by decide)) (fun _ => rfl) hc5 d_Re_tellPost_41 rfl ?_
      refine sx_nm (fun σ6 e6 => ?_)
      replace h := h σ6 e6
      refine sx_aload_n (pc2 := 43) hX 0 d_Re_tellPost_42 rfl rfl rfl ?_
      refine fg_Re_21 (pc2 := 46) hX (hK 3 0 0 (by decide) (by decide)) d_Re_tellPost_43 rfl ?_
      refine sx_dup (pc2 := 47) hX d_Re_tellPost_46 rfl rfl ?_
      refine fg_Re_96 (pc2 := 50) hX (hK 8 1 0 (by decide) (by decide)) d_Re_tellPost_47 rfl ?_
      refine sx_iconst (v := 1) (pc2 := 51) hX d_Re_tellPost_50 (by decide) rfl ?_
      refine sx_iadd (pc2 := 52) hX d_Re_tellPost_51 rfl ?_
      refine fp_Re_96 (pc2 := 55) hX (hK 8 1 0 (by decide) (by decide)) d_Re_tellPost_52 rfl ?_
      refine sx_nm (fun σ7 e7 => ?_)
      replace h := h σ7 e7
      exact sx_vret hX hE h d_Re_tellPost_55
    · replace h := sx_f h hc4
      refine sx_sub [(0, .ref (K.2.2.1 3 0 0)), (2, .int x2)] [0, 2] rfl ?_
      exact g_Re_tellPost_b22 hX hK hE   x2 _ _ h
theorem cl_Re_71 {X : sx_T} {K : sx_K} {cc : ByteArray} {nL : Nat} {ret : Option FieldType} {rm : Room} {l : Launch} {pc pc2 : Nat} {lv : List (Nat × Value)} {st : List Value} {σ : sx_M} {τ : sx_L} {x2 : Int32} {Q : sx_M → Prop} (hX : sx_C X K cc nL "SensorTree$Reader" ret rm l) (hK : kx_C K) (h : wp_Re_tellPost x2 σ Q)  (hR : rm_Re_tellPost.frames + 1 ≤ rm.frames ∧ 8 + (3 + 11) + rm_Re_tellPost.locals ≤ rm.locals) (hst : (st.map fun v => v.category).sum ≤ 8) (hd : decode cc pc = .ok (.invokevirtual 71, 3)) (hpc : pc + 3 = pc2) (kk : ∀ (σ2 : sx_M) (τ2 : sx_L), Q σ2 → sx_G X K nL pc2 lv (st) (sx_H K σ2 τ2)) : sx_G X K nL pc lv (.int x2 :: .ref (K.2.2.1 1 0 0) :: .ref (K.2.2.1 3 0 0) :: st) (sx_H K σ τ) :=
  sx_callVv (Q := fun σ _ => Q σ) (As := [.ref (K.2.2.1 1 0 0), .int x2]) hX (c_Re_tellPost hK x2 σ τ Q  h) (hK 3 0 0 (by decide) (by decide)) rfl rfl lk_222 ls_8 hy_Re_tellPost lk_220 lk_192 lk_221 ⟨rfl, rfl⟩ hR hst rfl hd hpc kk
def y_Ta_numberAt : MethodName := ⟨"SensorTree$Tape", "numberAt", "(II)I"⟩
theorem hy_Ta_numberAt : y_Ta_numberAt.cls ≠ "java/lang/invoke/MethodHandle" ∧ y_Ta_numberAt.cls ≠ "java/lang/invoke/VarHandle" ∧ (parseMethodDescriptor y_Ta_numberAt.desc).map (fun d => d.parameters.length) = some 2 := by decide +kernel
theorem d_Ta_numberAt_0 : decode prog_9_method_9_code 0 = .ok (.iconst 0, 1) := by decide +kernel
theorem d_Ta_numberAt_1 : decode prog_9_method_9_code 1 = .ok (.istore_n 3, 1) := by decide +kernel
theorem d_Ta_numberAt_2 : decode prog_9_method_9_code 2 = .ok (.iload_n 1, 1) := by decide +kernel
theorem d_Ta_numberAt_3 : decode prog_9_method_9_code 3 = .ok (.istore 4, 2) := by decide +kernel
theorem d_Ta_numberAt_5 : decode prog_9_method_9_code 5 = .ok (.iload 4, 2) := by decide +kernel
theorem d_Ta_numberAt_7 : decode prog_9_method_9_code 7 = .ok (.iload_n 1, 1) := by decide +kernel
theorem d_Ta_numberAt_8 : decode prog_9_method_9_code 8 = .ok (.iload_n 2, 1) := by decide +kernel
theorem d_Ta_numberAt_9 : decode prog_9_method_9_code 9 = .ok (.iadd, 1) := by decide +kernel
theorem d_Ta_numberAt_10 : decode prog_9_method_9_code 10 = .ok (.if_icmp .ge 24, 3) := by decide +kernel
theorem d_Ta_numberAt_13 : decode prog_9_method_9_code 13 = .ok (.iload_n 3, 1) := by decide +kernel
theorem d_Ta_numberAt_14 : decode prog_9_method_9_code 14 = .ok (.bipush 10, 2) := by decide +kernel
theorem d_Ta_numberAt_16 : decode prog_9_method_9_code 16 = .ok (.imul, 1) := by decide +kernel
theorem d_Ta_numberAt_17 : decode prog_9_method_9_code 17 = .ok (.aload_n 0, 1) := by decide +kernel
theorem d_Ta_numberAt_18 : decode prog_9_method_9_code 18 = .ok (.iload 4, 2) := by decide +kernel
theorem d_Ta_numberAt_20 : decode prog_9_method_9_code 20 = .ok (.invokevirtual 19, 3) := by decide +kernel
theorem d_Ta_numberAt_23 : decode prog_9_method_9_code 23 = .ok (.iadd, 1) := by decide +kernel
theorem d_Ta_numberAt_24 : decode prog_9_method_9_code 24 = .ok (.bipush 48, 2) := by decide +kernel
theorem d_Ta_numberAt_26 : decode prog_9_method_9_code 26 = .ok (.isub, 1) := by decide +kernel
theorem d_Ta_numberAt_27 : decode prog_9_method_9_code 27 = .ok (.istore_n 3, 1) := by decide +kernel
theorem d_Ta_numberAt_28 : decode prog_9_method_9_code 28 = .ok (.iinc 4 1, 3) := by decide +kernel
theorem d_Ta_numberAt_31 : decode prog_9_method_9_code 31 = .ok (.goto (-26), 3) := by decide +kernel
theorem d_Ta_numberAt_34 : decode prog_9_method_9_code 34 = .ok (.iload_n 3, 1) := by decide +kernel
theorem d_Ta_numberAt_35 : decode prog_9_method_9_code 35 = .ok (.ireturn, 1) := by decide +kernel
def wp_Ta_numberAt_b5   (Q : Int32 → sx_M → Prop) : Nat → Int32 → Int32 → Int32 → Int32 → sx_M → Prop
  | 0, _, _, _, _, _ => False
  | f + 1, v1, v2, v3, v4, σ => if v1 + v2 ≤ v4 then (Q v3 σ) else (wp_Ta_byteAt v4 σ (fun r2 σ2 => wp_Ta_numberAt_b5 Q f v1 v2 (((v3 * 10) + r2) - 48) (v4 + 1) σ2))
def wp_Ta_numberAt (x1 : Int32) (x2 : Int32) (σ : sx_M) (Q : Int32 → sx_M → Prop) : Prop := ∃ f5, wp_Ta_numberAt_b5 Q f5 x1 x2 0 x1 σ
abbrev rm_Ta_numberAt : Room := { frames := 1, cells := 0, slots := 0, locals := 21 }
set_option maxRecDepth 100000 in
set_option maxHeartbeats 4000000 in
theorem g_Ta_numberAt_b5 {l : Launch} {K : sx_K} {X : sx_T}   {Q : Int32 → sx_M → Prop} (hX : sx_C X K prog_9_method_9_code 5 "SensorTree$Tape" (some .int) rm_Ta_numberAt l) (hK : kx_C K) (hE : sx_E X K (sx_Qi K (fun r σ _ => Q r σ)))  : ∀ (f : Nat) (v1 : Int32) (v2 : Int32) (v3 : Int32) (v4 : Int32) (σ : sx_M) (τ : sx_L) , wp_Ta_numberAt_b5 Q f v1 v2 v3 v4 σ → sx_G X K 5 5 [(0, .ref (K.2.2.1 1 0 0)), (1, .int v1), (2, .int v2), (3, .int v3), (4, .int v4)] [] (sx_H K σ τ) := by
  intro f
  induction f with
  | zero => intro v1 v2 v3 v4 σ τ h; exact (show False from h).elim
  | succ f ih =>
    intro v1 v2 v3 v4 σ τ h
    rw [wp_Ta_numberAt_b5] at h
    refine sx_iload (pc2 := 7) hX 4 d_Ta_numberAt_5 rfl rfl ?_
    refine sx_iload_n (pc2 := 8) hX 1 d_Ta_numberAt_7 rfl rfl rfl ?_
    refine sx_iload_n (pc2 := 9) hX 2 d_Ta_numberAt_8 rfl rfl rfl ?_
    refine sx_iadd (pc2 := 10) hX d_Ta_numberAt_9 rfl ?_
    refine sx_icmp_ge (tgt := 34) (pc2 := 13) hX d_Ta_numberAt_10 (by decide) rfl (fun hc1 => ?_) (fun hc1 => ?_)
    · replace h := sx_t h hc1
      refine sx_iload_n (pc2 := 35) hX 3 d_Ta_numberAt_34 rfl rfl rfl ?_
      exact sx_iret hX hE h d_Ta_numberAt_35
    · replace h := sx_f h hc1
      refine sx_iload_n (pc2 := 14) hX 3 d_Ta_numberAt_13 rfl rfl rfl ?_
      refine sx_bipush (v := 10) (pc2 := 16) hX d_Ta_numberAt_14 (by decide) rfl ?_
      refine sx_imul (pc2 := 17) hX d_Ta_numberAt_16 rfl ?_
      refine sx_aload_n (pc2 := 18) hX 0 d_Ta_numberAt_17 rfl rfl rfl ?_
      refine sx_iload (pc2 := 20) hX 4 d_Ta_numberAt_18 rfl rfl ?_
      refine cl_Ta_19 (pc2 := 23) hX hK h  ⟨Nat.le_of_ble_eq_true rfl, Nat.le_of_ble_eq_true rfl⟩ (Nat.le_of_ble_eq_true rfl) d_Ta_numberAt_20 rfl (fun r2 σ2 τ2 h => ?_)
      refine sx_iadd (pc2 := 24) hX d_Ta_numberAt_23 rfl ?_
      refine sx_bipush (v := 48) (pc2 := 26) hX d_Ta_numberAt_24 (by decide) rfl ?_
      refine sx_isub (pc2 := 27) hX d_Ta_numberAt_26 rfl ?_
      refine sx_istore_n (pc2 := 28) hX _ [(0, .ref (K.2.2.1 1 0 0)), (1, .int v1), (2, .int v2), (3, .int (((v3 * 10) + r2) - 48)), (4, .int v4)] [1, 2, 3, 0, 4] d_Ta_numberAt_27 rfl (by decide) rfl rfl rfl ?_
      refine sx_iinc (pc2 := 31) hX 4 _ [(0, .ref (K.2.2.1 1 0 0)), (1, .int v1), (2, .int v2), (3, .int (((v3 * 10) + r2) - 48)), (4, .int (v4 + 1))] [1, 2, 3, 4, 0] d_Ta_numberAt_28 rfl (v4 + 1) rfl (by decide) rfl rfl rfl ?_
      refine sx_goto (tgt := 5) hX d_Ta_numberAt_31 (by decide) ?_
      exact ih v1 v2 (((v3 * 10) + r2) - 48) (v4 + 1) _ _ h
set_option maxRecDepth 100000 in
set_option maxHeartbeats 4000000 in
theorem c_Ta_numberAt {l : Launch} {K : sx_K} (hK : kx_C K) (x1 : Int32) (x2 : Int32) (σ : sx_M) (τ : sx_L) (Q : Int32 → sx_M → Prop)  (h : wp_Ta_numberAt x1 x2 σ Q) : Met l y_Ta_numberAt (sx_wd y_Ta_numberAt prog_9_method_9_code 5 (some .int)) rm_Ta_numberAt (sx_Pc K [.ref (K.2.2.1 1 0 0), .int x1, .int x2] σ τ) (sx_Qi K (fun r σ _ => Q r σ)) 0 0 (sx_A K) := by
  refine sx_met (by decide) (Nat.le_of_ble_eq_true rfl) (fun X hX hE => ?_)
  replace hX : sx_C X K prog_9_method_9_code 5 "SensorTree$Tape" (some .int) rm_Ta_numberAt l := hX
  show sx_G X K 5 0 [(0, .ref (K.2.2.1 1 0 0)), (1, .int x1), (2, .int x2)] [] (sx_H K σ τ)
  unfold wp_Ta_numberAt at h
  refine sx_iconst (v := 0) (pc2 := 1) hX d_Ta_numberAt_0 (by decide) rfl ?_
  refine sx_istore_n (pc2 := 2) hX _ [(0, .ref (K.2.2.1 1 0 0)), (1, .int x1), (2, .int x2), (3, .int 0)] [1, 2, 3, 0] d_Ta_numberAt_1 rfl (by decide) rfl rfl rfl ?_
  refine sx_iload_n (pc2 := 3) hX 1 d_Ta_numberAt_2 rfl rfl rfl ?_
  refine sx_istore (pc2 := 5) hX _ [(0, .ref (K.2.2.1 1 0 0)), (1, .int x1), (2, .int x2), (3, .int 0), (4, .int x1)] [1, 2, 3, 4, 0] d_Ta_numberAt_3 (by decide) rfl rfl rfl ?_
  obtain ⟨f5, h⟩ := h
  exact g_Ta_numberAt_b5 hX hK hE   f5 x1 x2 0 x1 _ _ h
theorem cl_Re_111 {X : sx_T} {K : sx_K} {cc : ByteArray} {nL : Nat} {ret : Option FieldType} {rm : Room} {l : Launch} {pc pc2 : Nat} {lv : List (Nat × Value)} {st : List Value} {σ : sx_M} {τ : sx_L} {x1 : Int32} {x2 : Int32} {Q : Int32 → sx_M → Prop} (hX : sx_C X K cc nL "SensorTree$Reader" ret rm l) (hK : kx_C K) (h : wp_Ta_numberAt x1 x2 σ Q)  (hR : rm_Ta_numberAt.frames + 1 ≤ rm.frames ∧ 8 + (5 + 11) + rm_Ta_numberAt.locals ≤ rm.locals) (hst : (st.map fun v => v.category).sum ≤ 8) (hd : decode cc pc = .ok (.invokevirtual 111, 3)) (hpc : pc + 3 = pc2) (kk : ∀ (r : Int32) (σ2 : sx_M) (τ2 : sx_L), Q r σ2 → sx_G X K nL pc2 lv (.int r :: st) (sx_H K σ2 τ2)) : sx_G X K nL pc lv (.int x2 :: .int x1 :: .ref (K.2.2.1 1 0 0) :: st) (sx_H K σ τ) :=
  sx_callVi (Q := fun r σ _ => Q r σ) (As := [.int x1, .int x2]) hX (c_Ta_numberAt hK x1 x2 σ τ Q  h) (hK 1 0 0 (by decide) (by decide)) rfl rfl lk_201 lk_202 hy_Ta_numberAt lk_199 lk_131 lk_200 ⟨rfl, rfl⟩ hR hst rfl hd hpc kk
def y_Re_intAt : MethodName := ⟨"SensorTree$Reader", "intAt", "(LSensorTree$Tape;I)I"⟩
theorem hy_Re_intAt : y_Re_intAt.cls ≠ "java/lang/invoke/MethodHandle" ∧ y_Re_intAt.cls ≠ "java/lang/invoke/VarHandle" ∧ (parseMethodDescriptor y_Re_intAt.desc).map (fun d => d.parameters.length) = some 2 := by decide +kernel
theorem d_Re_intAt_0 : decode prog_8_method_8_code 0 = .ok (.aload_n 1, 1) := by decide +kernel
theorem d_Re_intAt_1 : decode prog_8_method_8_code 1 = .ok (.aload_n 0, 1) := by decide +kernel
theorem d_Re_intAt_2 : decode prog_8_method_8_code 2 = .ok (.getfield 12, 3) := by decide +kernel
theorem d_Re_intAt_5 : decode prog_8_method_8_code 5 = .ok (.getfield 107, 3) := by decide +kernel
theorem d_Re_intAt_8 : decode prog_8_method_8_code 8 = .ok (.iload_n 2, 1) := by decide +kernel
theorem d_Re_intAt_9 : decode prog_8_method_8_code 9 = .ok (.iaload, 1) := by decide +kernel
theorem d_Re_intAt_10 : decode prog_8_method_8_code 10 = .ok (.aload_n 0, 1) := by decide +kernel
theorem d_Re_intAt_11 : decode prog_8_method_8_code 11 = .ok (.getfield 12, 3) := by decide +kernel
theorem d_Re_intAt_14 : decode prog_8_method_8_code 14 = .ok (.getfield 109, 3) := by decide +kernel
theorem d_Re_intAt_17 : decode prog_8_method_8_code 17 = .ok (.iload_n 2, 1) := by decide +kernel
theorem d_Re_intAt_18 : decode prog_8_method_8_code 18 = .ok (.iaload, 1) := by decide +kernel
theorem d_Re_intAt_19 : decode prog_8_method_8_code 19 = .ok (.invokevirtual 111, 3) := by decide +kernel
theorem d_Re_intAt_22 : decode prog_8_method_8_code 22 = .ok (.ireturn, 1) := by decide +kernel
def wp_Re_intAt (x2 : Int32) (σ : sx_M) (Q : Int32 → sx_M → Prop) : Prop := vp_in x2 400 ∧ (vp_in x2 400 ∧ (wp_Ta_numberAt (σ 6 0 0 x2.toNatClampNeg) (σ 7 0 0 x2.toNatClampNeg) σ (fun r3 σ3 => Q r3 σ3)))
abbrev rm_Re_intAt : Room := { frames := 2, cells := 0, slots := 0, locals := 45 }
set_option maxRecDepth 100000 in
set_option maxHeartbeats 4000000 in
theorem c_Re_intAt {l : Launch} {K : sx_K} (hK : kx_C K) (x2 : Int32) (σ : sx_M) (τ : sx_L) (Q : Int32 → sx_M → Prop)  (h : wp_Re_intAt x2 σ Q) : Met l y_Re_intAt (sx_wd y_Re_intAt prog_8_method_8_code 3 (some .int)) rm_Re_intAt (sx_Pc K [.ref (K.2.2.1 3 0 0), .ref (K.2.2.1 1 0 0), .int x2] σ τ) (sx_Qi K (fun r σ _ => Q r σ)) 0 0 (sx_A K) := by
  refine sx_met (by decide) (Nat.le_of_ble_eq_true rfl) (fun X hX hE => ?_)
  replace hX : sx_C X K prog_8_method_8_code 3 "SensorTree$Reader" (some .int) rm_Re_intAt l := hX
  show sx_G X K 3 0 [(0, .ref (K.2.2.1 3 0 0)), (1, .ref (K.2.2.1 1 0 0)), (2, .int x2)] [] (sx_H K σ τ)
  unfold wp_Re_intAt at h
  refine sx_aload_n (pc2 := 1) hX 1 d_Re_intAt_0 rfl rfl rfl ?_
  refine sx_aload_n (pc2 := 2) hX 0 d_Re_intAt_1 rfl rfl rfl ?_
  refine fg_Re_12 (pc2 := 5) hX (hK 3 0 0 (by decide) (by decide)) d_Re_intAt_2 rfl ?_
  refine fg_Re_107 (pc2 := 8) hX (hK 4 0 0 (by decide) (by decide)) d_Re_intAt_5 rfl ?_
  refine sx_iload_n (pc2 := 9) hX 2 d_Re_intAt_8 rfl rfl rfl ?_
  obtain ⟨hc1, h⟩ := h
  refine sx_iald (pc2 := 10) hX (hK 6 0 0 (by decide) (by decide)) rfl hc1 d_Re_intAt_9 rfl ?_
  refine sx_aload_n (pc2 := 11) hX 0 d_Re_intAt_10 rfl rfl rfl ?_
  refine fg_Re_12 (pc2 := 14) hX (hK 3 0 0 (by decide) (by decide)) d_Re_intAt_11 rfl ?_
  refine fg_Re_109 (pc2 := 17) hX (hK 4 0 0 (by decide) (by decide)) d_Re_intAt_14 rfl ?_
  refine sx_iload_n (pc2 := 18) hX 2 d_Re_intAt_17 rfl rfl rfl ?_
  obtain ⟨hc2, h⟩ := h
  refine sx_iald (pc2 := 19) hX (hK 7 0 0 (by decide) (by decide)) rfl hc2 d_Re_intAt_18 rfl ?_
  refine cl_Re_111 (pc2 := 22) hX hK h  ⟨Nat.le_of_ble_eq_true rfl, Nat.le_of_ble_eq_true rfl⟩ (Nat.le_of_ble_eq_true rfl) d_Re_intAt_19 rfl (fun r3 σ3 τ3 h => ?_)
  exact sx_iret hX hE h d_Re_intAt_22
theorem cl_Re_81 {X : sx_T} {K : sx_K} {cc : ByteArray} {nL : Nat} {ret : Option FieldType} {rm : Room} {l : Launch} {pc pc2 : Nat} {lv : List (Nat × Value)} {st : List Value} {σ : sx_M} {τ : sx_L} {x2 : Int32} {Q : Int32 → sx_M → Prop} (hX : sx_C X K cc nL "SensorTree$Reader" ret rm l) (hK : kx_C K) (h : wp_Re_intAt x2 σ Q)  (hR : rm_Re_intAt.frames + 1 ≤ rm.frames ∧ 8 + (3 + 11) + rm_Re_intAt.locals ≤ rm.locals) (hst : (st.map fun v => v.category).sum ≤ 8) (hd : decode cc pc = .ok (.invokevirtual 81, 3)) (hpc : pc + 3 = pc2) (kk : ∀ (r : Int32) (σ2 : sx_M) (τ2 : sx_L), Q r σ2 → sx_G X K nL pc2 lv (.int r :: st) (sx_H K σ2 τ2)) : sx_G X K nL pc lv (.int x2 :: .ref (K.2.2.1 1 0 0) :: .ref (K.2.2.1 3 0 0) :: st) (sx_H K σ τ) :=
  sx_callVi (Q := fun r σ _ => Q r σ) (As := [.ref (K.2.2.1 1 0 0), .int x2]) hX (c_Re_intAt hK x2 σ τ Q  h) (hK 3 0 0 (by decide) (by decide)) rfl rfl lk_205 ls_12 hy_Re_intAt lk_203 lk_192 lk_204 ⟨rfl, rfl⟩ hR hst rfl hd hpc kk
def y_Re_tellLink : MethodName := ⟨"SensorTree$Reader", "tellLink", "(LSensorTree$Tape;I)V"⟩
theorem hy_Re_tellLink : y_Re_tellLink.cls ≠ "java/lang/invoke/MethodHandle" ∧ y_Re_tellLink.cls ≠ "java/lang/invoke/VarHandle" ∧ (parseMethodDescriptor y_Re_tellLink.desc).map (fun d => d.parameters.length) = some 2 := by decide +kernel
theorem d_Re_tellLink_0 : decode prog_8_method_6_code 0 = .ok (.aload_n 0, 1) := by decide +kernel
theorem d_Re_tellLink_1 : decode prog_8_method_6_code 1 = .ok (.aload_n 1, 1) := by decide +kernel
theorem d_Re_tellLink_2 : decode prog_8_method_6_code 2 = .ok (.iload_n 2, 1) := by decide +kernel
theorem d_Re_tellLink_3 : decode prog_8_method_6_code 3 = .ok (.invokevirtual 93, 3) := by decide +kernel
theorem d_Re_tellLink_6 : decode prog_8_method_6_code 6 = .ok (.istore_n 3, 1) := by decide +kernel
theorem d_Re_tellLink_7 : decode prog_8_method_6_code 7 = .ok (.aload_n 0, 1) := by decide +kernel
theorem d_Re_tellLink_8 : decode prog_8_method_6_code 8 = .ok (.aload_n 1, 1) := by decide +kernel
theorem d_Re_tellLink_9 : decode prog_8_method_6_code 9 = .ok (.iload_n 2, 1) := by decide +kernel
theorem d_Re_tellLink_10 : decode prog_8_method_6_code 10 = .ok (.iconst 1, 1) := by decide +kernel
theorem d_Re_tellLink_11 : decode prog_8_method_6_code 11 = .ok (.iadd, 1) := by decide +kernel
theorem d_Re_tellLink_12 : decode prog_8_method_6_code 12 = .ok (.invokevirtual 93, 3) := by decide +kernel
theorem d_Re_tellLink_15 : decode prog_8_method_6_code 15 = .ok (.istore 4, 2) := by decide +kernel
theorem d_Re_tellLink_17 : decode prog_8_method_6_code 17 = .ok (.aload_n 0, 1) := by decide +kernel
theorem d_Re_tellLink_18 : decode prog_8_method_6_code 18 = .ok (.aload_n 1, 1) := by decide +kernel
theorem d_Re_tellLink_19 : decode prog_8_method_6_code 19 = .ok (.iload_n 2, 1) := by decide +kernel
theorem d_Re_tellLink_20 : decode prog_8_method_6_code 20 = .ok (.iconst 2, 1) := by decide +kernel
theorem d_Re_tellLink_21 : decode prog_8_method_6_code 21 = .ok (.iadd, 1) := by decide +kernel
theorem d_Re_tellLink_22 : decode prog_8_method_6_code 22 = .ok (.invokevirtual 81, 3) := by decide +kernel
theorem d_Re_tellLink_25 : decode prog_8_method_6_code 25 = .ok (.istore 5, 2) := by decide +kernel
theorem d_Re_tellLink_27 : decode prog_8_method_6_code 27 = .ok (.iload_n 3, 1) := by decide +kernel
theorem d_Re_tellLink_28 : decode prog_8_method_6_code 28 = .ok (.iconst (-1), 1) := by decide +kernel
theorem d_Re_tellLink_29 : decode prog_8_method_6_code 29 = .ok (.if_icmp .ne 12, 3) := by decide +kernel
theorem d_Re_tellLink_32 : decode prog_8_method_6_code 32 = .ok (.aload_n 0, 1) := by decide +kernel
theorem d_Re_tellLink_33 : decode prog_8_method_6_code 33 = .ok (.iconst 4, 1) := by decide +kernel
theorem d_Re_tellLink_34 : decode prog_8_method_6_code 34 = .ok (.iload_n 2, 1) := by decide +kernel
theorem d_Re_tellLink_35 : decode prog_8_method_6_code 35 = .ok (.invokevirtual 89, 3) := by decide +kernel
theorem d_Re_tellLink_38 : decode prog_8_method_6_code 38 = .ok (.goto 89, 3) := by decide +kernel
theorem d_Re_tellLink_41 : decode prog_8_method_6_code 41 = .ok (.iload 4, 2) := by decide +kernel
theorem d_Re_tellLink_43 : decode prog_8_method_6_code 43 = .ok (.iconst (-1), 1) := by decide +kernel
theorem d_Re_tellLink_44 : decode prog_8_method_6_code 44 = .ok (.if_icmp .ne 14, 3) := by decide +kernel
theorem d_Re_tellLink_47 : decode prog_8_method_6_code 47 = .ok (.aload_n 0, 1) := by decide +kernel
theorem d_Re_tellLink_48 : decode prog_8_method_6_code 48 = .ok (.iconst 4, 1) := by decide +kernel
theorem d_Re_tellLink_49 : decode prog_8_method_6_code 49 = .ok (.iload_n 2, 1) := by decide +kernel
theorem d_Re_tellLink_50 : decode prog_8_method_6_code 50 = .ok (.iconst 1, 1) := by decide +kernel
theorem d_Re_tellLink_51 : decode prog_8_method_6_code 51 = .ok (.iadd, 1) := by decide +kernel
theorem d_Re_tellLink_52 : decode prog_8_method_6_code 52 = .ok (.invokevirtual 89, 3) := by decide +kernel
theorem d_Re_tellLink_55 : decode prog_8_method_6_code 55 = .ok (.goto 72, 3) := by decide +kernel
theorem d_Re_tellLink_58 : decode prog_8_method_6_code 58 = .ok (.iload_n 3, 1) := by decide +kernel
theorem d_Re_tellLink_59 : decode prog_8_method_6_code 59 = .ok (.iload 4, 2) := by decide +kernel
theorem d_Re_tellLink_61 : decode prog_8_method_6_code 61 = .ok (.if_icmp .eq 19, 3) := by decide +kernel
theorem d_Re_tellLink_64 : decode prog_8_method_6_code 64 = .ok (.aload_n 0, 1) := by decide +kernel
theorem d_Re_tellLink_65 : decode prog_8_method_6_code 65 = .ok (.getfield 21, 3) := by decide +kernel
theorem d_Re_tellLink_68 : decode prog_8_method_6_code 68 = .ok (.getfield 99, 3) := by decide +kernel
theorem d_Re_tellLink_71 : decode prog_8_method_6_code 71 = .ok (.iload_n 3, 1) := by decide +kernel
theorem d_Re_tellLink_72 : decode prog_8_method_6_code 72 = .ok (.aaload, 1) := by decide +kernel
theorem d_Re_tellLink_73 : decode prog_8_method_6_code 73 = .ok (.iload 4, 2) := by decide +kernel
theorem d_Re_tellLink_75 : decode prog_8_method_6_code 75 = .ok (.iaload, 1) := by decide +kernel
theorem d_Re_tellLink_76 : decode prog_8_method_6_code 76 = .ok (.iconst (-1), 1) := by decide +kernel
theorem d_Re_tellLink_77 : decode prog_8_method_6_code 77 = .ok (.if_icmp .eq 14, 3) := by decide +kernel
theorem d_Re_tellLink_80 : decode prog_8_method_6_code 80 = .ok (.aload_n 0, 1) := by decide +kernel
theorem d_Re_tellLink_81 : decode prog_8_method_6_code 81 = .ok (.iconst 3, 1) := by decide +kernel
theorem d_Re_tellLink_82 : decode prog_8_method_6_code 82 = .ok (.iload_n 2, 1) := by decide +kernel
theorem d_Re_tellLink_83 : decode prog_8_method_6_code 83 = .ok (.iconst 1, 1) := by decide +kernel
theorem d_Re_tellLink_84 : decode prog_8_method_6_code 84 = .ok (.iadd, 1) := by decide +kernel
theorem d_Re_tellLink_85 : decode prog_8_method_6_code 85 = .ok (.invokevirtual 89, 3) := by decide +kernel
theorem d_Re_tellLink_88 : decode prog_8_method_6_code 88 = .ok (.goto 39, 3) := by decide +kernel
theorem d_Re_tellLink_91 : decode prog_8_method_6_code 91 = .ok (.iload 5, 2) := by decide +kernel
theorem d_Re_tellLink_93 : decode prog_8_method_6_code 93 = .ok (.iconst 1, 1) := by decide +kernel
theorem d_Re_tellLink_94 : decode prog_8_method_6_code 94 = .ok (.if_icmp .lt 10, 3) := by decide +kernel
theorem d_Re_tellLink_97 : decode prog_8_method_6_code 97 = .ok (.iload 5, 2) := by decide +kernel
theorem d_Re_tellLink_99 : decode prog_8_method_6_code 99 = .ok (.bipush 9, 2) := by decide +kernel
theorem d_Re_tellLink_101 : decode prog_8_method_6_code 101 = .ok (.if_icmp .le 14, 3) := by decide +kernel
theorem d_Re_tellLink_104 : decode prog_8_method_6_code 104 = .ok (.aload_n 0, 1) := by decide +kernel
theorem d_Re_tellLink_105 : decode prog_8_method_6_code 105 = .ok (.iconst 5, 1) := by decide +kernel
theorem d_Re_tellLink_106 : decode prog_8_method_6_code 106 = .ok (.iload_n 2, 1) := by decide +kernel
theorem d_Re_tellLink_107 : decode prog_8_method_6_code 107 = .ok (.iconst 2, 1) := by decide +kernel
theorem d_Re_tellLink_108 : decode prog_8_method_6_code 108 = .ok (.iadd, 1) := by decide +kernel
theorem d_Re_tellLink_109 : decode prog_8_method_6_code 109 = .ok (.invokevirtual 89, 3) := by decide +kernel
theorem d_Re_tellLink_112 : decode prog_8_method_6_code 112 = .ok (.goto 15, 3) := by decide +kernel
theorem d_Re_tellLink_115 : decode prog_8_method_6_code 115 = .ok (.aload_n 0, 1) := by decide +kernel
theorem d_Re_tellLink_116 : decode prog_8_method_6_code 116 = .ok (.getfield 21, 3) := by decide +kernel
theorem d_Re_tellLink_119 : decode prog_8_method_6_code 119 = .ok (.iload_n 3, 1) := by decide +kernel
theorem d_Re_tellLink_120 : decode prog_8_method_6_code 120 = .ok (.iload 4, 2) := by decide +kernel
theorem d_Re_tellLink_122 : decode prog_8_method_6_code 122 = .ok (.iload 5, 2) := by decide +kernel
theorem d_Re_tellLink_124 : decode prog_8_method_6_code 124 = .ok (.invokevirtual 103, 3) := by decide +kernel
theorem d_Re_tellLink_127 : decode prog_8_method_6_code 127 = .ok (.return_, 1) := by decide +kernel
def wp_Re_tellLink_b127   (Q : sx_M → Prop)  (σ : sx_M) : Prop := Q σ
def wp_Re_tellLink_b104   (Q : sx_M → Prop) (v2 : Int32) (σ : sx_M) : Prop := wp_Re_blame (5 : Int32) (v2 + 2) σ (fun σ1 => wp_Re_tellLink_b127 Q σ1)
def wp_Re_tellLink_b80   (Q : sx_M → Prop) (v2 : Int32) (σ : sx_M) : Prop := wp_Re_blame (3 : Int32) (v2 + 1) σ (fun σ2 => wp_Re_tellLink_b127 Q σ2)
def wp_Re_tellLink (x2 : Int32) (σ : sx_M) (Q : sx_M → Prop) : Prop := wp_Re_postNamed x2 σ (fun r3 σ3 => wp_Re_postNamed (x2 + 1) σ3 (fun r4 σ4 => wp_Re_intAt (x2 + 2) σ4 (fun r5 σ5 => if r3 = (-1) then (wp_Re_blame (4 : Int32) x2 σ5 (fun σ16 => wp_Re_tellLink_b127 Q σ16)) else (if r4 = (-1) then (wp_Re_blame (4 : Int32) (x2 + 1) σ5 (fun σ15 => wp_Re_tellLink_b127 Q σ15)) else (if r3 = r4 then (wp_Re_tellLink_b80 Q x2 σ5) else (vp_in r3 7 ∧ (vp_in r4 7 ∧ (if σ5 13 1 r3.toNatClampNeg r4.toNatClampNeg = (-1) then (if r5 < 1 then (wp_Re_tellLink_b104 Q x2 σ5) else (if r5 ≤ 9 then (wp_Pl_addLink 1 r3 r4 r5 σ5 (fun σ14 => wp_Re_tellLink_b127 Q σ14)) else (wp_Re_tellLink_b104 Q x2 σ5))) else (wp_Re_tellLink_b80 Q x2 σ5)))))))))
abbrev rm_Re_tellLink : Room := { frames := 3, cells := 0, slots := 0, locals := 71 }
set_option maxRecDepth 100000 in
set_option maxHeartbeats 4000000 in
theorem g_Re_tellLink_b127 {l : Launch} {K : sx_K} {X : sx_T}   {Q : sx_M → Prop} (hX : sx_C X K prog_8_method_6_code 6 "SensorTree$Reader" none rm_Re_tellLink l) (hK : kx_C K) (hE : sx_E X K (sx_Qv K (fun σ _ => Q σ)))   (σ : sx_M) (τ : sx_L)  (h : wp_Re_tellLink_b127 Q  σ) : sx_G X K 6 127 [] [] (sx_H K σ τ) := by
  unfold wp_Re_tellLink_b127 at h
  exact sx_vret hX hE h d_Re_tellLink_127
set_option maxRecDepth 100000 in
set_option maxHeartbeats 4000000 in
theorem g_Re_tellLink_b104 {l : Launch} {K : sx_K} {X : sx_T}   {Q : sx_M → Prop} (hX : sx_C X K prog_8_method_6_code 6 "SensorTree$Reader" none rm_Re_tellLink l) (hK : kx_C K) (hE : sx_E X K (sx_Qv K (fun σ _ => Q σ)))  (v2 : Int32) (σ : sx_M) (τ : sx_L)  (h : wp_Re_tellLink_b104 Q  v2 σ) : sx_G X K 6 104 [(0, .ref (K.2.2.1 3 0 0)), (2, .int v2)] [] (sx_H K σ τ) := by
  unfold wp_Re_tellLink_b104 at h
  refine sx_aload_n (pc2 := 105) hX 0 d_Re_tellLink_104 rfl rfl rfl ?_
  refine sx_iconst (v := 5) (pc2 := 106) hX d_Re_tellLink_105 (by decide) rfl ?_
  refine sx_iload_n (pc2 := 107) hX 1 d_Re_tellLink_106 rfl rfl rfl ?_
  refine sx_iconst (v := 2) (pc2 := 108) hX d_Re_tellLink_107 (by decide) rfl ?_
  refine sx_iadd (pc2 := 109) hX d_Re_tellLink_108 rfl ?_
  refine cl_Re_89 (pc2 := 112) hX hK h  ⟨Nat.le_of_ble_eq_true rfl, Nat.le_of_ble_eq_true rfl⟩ (Nat.le_of_ble_eq_true rfl) d_Re_tellLink_109 rfl (fun σ1 τ1 h => ?_)
  refine sx_goto (tgt := 127) hX d_Re_tellLink_112 (by decide) ?_
  refine sx_sub [] [] rfl ?_
  exact g_Re_tellLink_b127 hX hK hE   _ _ h
set_option maxRecDepth 100000 in
set_option maxHeartbeats 4000000 in
theorem g_Re_tellLink_b80 {l : Launch} {K : sx_K} {X : sx_T}   {Q : sx_M → Prop} (hX : sx_C X K prog_8_method_6_code 6 "SensorTree$Reader" none rm_Re_tellLink l) (hK : kx_C K) (hE : sx_E X K (sx_Qv K (fun σ _ => Q σ)))  (v2 : Int32) (σ : sx_M) (τ : sx_L)  (h : wp_Re_tellLink_b80 Q  v2 σ) : sx_G X K 6 80 [(0, .ref (K.2.2.1 3 0 0)), (2, .int v2)] [] (sx_H K σ τ) := by
  unfold wp_Re_tellLink_b80 at h
  refine sx_aload_n (pc2 := 81) hX 0 d_Re_tellLink_80 rfl rfl rfl ?_
  refine sx_iconst (v := 3) (pc2 := 82) hX d_Re_tellLink_81 (by decide) rfl ?_
  refine sx_iload_n (pc2 := 83) hX 1 d_Re_tellLink_82 rfl rfl rfl ?_
  refine sx_iconst (v := 1) (pc2 := 84) hX d_Re_tellLink_83 (by decide) rfl ?_
  refine sx_iadd (pc2 := 85) hX d_Re_tellLink_84 rfl ?_
  refine cl_Re_89 (pc2 := 88) hX hK h  ⟨Nat.le_of_ble_eq_true rfl, Nat.le_of_ble_eq_true rfl⟩ (Nat.le_of_ble_eq_true rfl) d_Re_tellLink_85 rfl (fun σ2 τ2 h => ?_)
  refine sx_goto (tgt := 127) hX d_Re_tellLink_88 (by decide) ?_
  refine sx_sub [] [] rfl ?_
  exact g_Re_tellLink_b127 hX hK hE   _ _ h
set_option maxRecDepth 100000 in
set_option maxHeartbeats 4000000 in
theorem c_Re_tellLink {l : Launch} {K : sx_K} (hK : kx_C K) (x2 : Int32) (σ : sx_M) (τ : sx_L) (Q : sx_M → Prop)  (h : wp_Re_tellLink x2 σ Q) : Met l y_Re_tellLink (sx_wd y_Re_tellLink prog_8_method_6_code 6 none) rm_Re_tellLink (sx_Pc K [.ref (K.2.2.1 3 0 0), .ref (K.2.2.1 1 0 0), .int x2] σ τ) (sx_Qv K (fun σ _ => Q σ)) 0 0 (sx_A K) := by
  refine sx_met (by decide) (Nat.le_of_ble_eq_true rfl) (fun X hX hE => ?_)
  replace hX : sx_C X K prog_8_method_6_code 6 "SensorTree$Reader" none rm_Re_tellLink l := hX
  show sx_G X K 6 0 [(0, .ref (K.2.2.1 3 0 0)), (1, .ref (K.2.2.1 1 0 0)), (2, .int x2)] [] (sx_H K σ τ)
  unfold wp_Re_tellLink at h
  refine sx_aload_n (pc2 := 1) hX 0 d_Re_tellLink_0 rfl rfl rfl ?_
  refine sx_aload_n (pc2 := 2) hX 1 d_Re_tellLink_1 rfl rfl rfl ?_
  refine sx_iload_n (pc2 := 3) hX 2 d_Re_tellLink_2 rfl rfl rfl ?_
  refine cl_Re_93 (pc2 := 6) hX hK h  ⟨Nat.le_of_ble_eq_true rfl, Nat.le_of_ble_eq_true rfl⟩ (Nat.le_of_ble_eq_true rfl) d_Re_tellLink_3 rfl (fun r3 σ3 τ3 h => ?_)
  refine sx_istore_n (pc2 := 7) hX _ [(0, .ref (K.2.2.1 3 0 0)), (1, .ref (K.2.2.1 1 0 0)), (2, .int x2), (3, .int r3)] [1, 2, 3, 0] d_Re_tellLink_6 rfl (by decide) rfl rfl rfl ?_
  refine sx_aload_n (pc2 := 8) hX 0 d_Re_tellLink_7 rfl rfl rfl ?_
  refine sx_aload_n (pc2 := 9) hX 1 d_Re_tellLink_8 rfl rfl rfl ?_
  refine sx_iload_n (pc2 := 10) hX 2 d_Re_tellLink_9 rfl rfl rfl ?_
  refine sx_iconst (v := 1) (pc2 := 11) hX d_Re_tellLink_10 (by decide) rfl ?_
  refine sx_iadd (pc2 := 12) hX d_Re_tellLink_11 rfl ?_
  refine cl_Re_93 (pc2 := 15) hX hK h  ⟨Nat.le_of_ble_eq_true rfl, Nat.le_of_ble_eq_true rfl⟩ (Nat.le_of_ble_eq_true rfl) d_Re_tellLink_12 rfl (fun r4 σ4 τ4 h => ?_)
  refine sx_istore (pc2 := 17) hX _ [(0, .ref (K.2.2.1 3 0 0)), (1, .ref (K.2.2.1 1 0 0)), (2, .int x2), (3, .int r3), (4, .int r4)] [1, 2, 3, 4, 0] d_Re_tellLink_15 (by decide) rfl rfl rfl ?_
  refine sx_aload_n (pc2 := 18) hX 0 d_Re_tellLink_17 rfl rfl rfl ?_
  refine sx_aload_n (pc2 := 19) hX 1 d_Re_tellLink_18 rfl rfl rfl ?_
  refine sx_iload_n (pc2 := 20) hX 2 d_Re_tellLink_19 rfl rfl rfl ?_
  refine sx_iconst (v := 2) (pc2 := 21) hX d_Re_tellLink_20 (by decide) rfl ?_
  refine sx_iadd (pc2 := 22) hX d_Re_tellLink_21 rfl ?_
  refine cl_Re_81 (pc2 := 25) hX hK h  ⟨Nat.le_of_ble_eq_true rfl, Nat.le_of_ble_eq_true rfl⟩ (Nat.le_of_ble_eq_true rfl) d_Re_tellLink_22 rfl (fun r5 σ5 τ5 h => ?_)
  refine sx_istore (pc2 := 27) hX _ [(0, .ref (K.2.2.1 3 0 0)), (1, .ref (K.2.2.1 1 0 0)), (2, .int x2), (3, .int r3), (4, .int r4), (5, .int r5)] [1, 2, 3, 4, 5, 0] d_Re_tellLink_25 (by decide) rfl rfl rfl ?_
  refine sx_iload_n (pc2 := 28) hX 3 d_Re_tellLink_27 rfl rfl rfl ?_
  refine sx_iconst (v := (-1)) (pc2 := 29) hX d_Re_tellLink_28 (by decide) rfl ?_
  refine sx_icmp_ne (tgt := 41) (pc2 := 32) hX d_Re_tellLink_29 (by decide) rfl (fun hc6 => ?_) (fun hc6 => ?_)
  · replace h := sx_f h hc6
    refine sx_iload (pc2 := 43) hX 4 d_Re_tellLink_41 rfl rfl ?_
    refine sx_iconst (v := (-1)) (pc2 := 44) hX d_Re_tellLink_43 (by decide) rfl ?_
    refine sx_icmp_ne (tgt := 58) (pc2 := 47) hX d_Re_tellLink_44 (by decide) rfl (fun hc7 => ?_) (fun hc7 => ?_)
    · replace h := sx_f h hc7
      refine sx_iload_n (pc2 := 59) hX 3 d_Re_tellLink_58 rfl rfl rfl ?_
      refine sx_iload (pc2 := 61) hX 4 d_Re_tellLink_59 rfl rfl ?_
      refine sx_icmp_eq (tgt := 80) (pc2 := 64) hX d_Re_tellLink_61 (by decide) rfl (fun hc8 => ?_) (fun hc8 => ?_)
      · replace h := sx_t h hc8
        refine sx_sub [(0, .ref (K.2.2.1 3 0 0)), (2, .int x2)] [0, 2] rfl ?_
        exact g_Re_tellLink_b80 hX hK hE   x2 _ _ h
      · replace h := sx_f h hc8
        refine sx_aload_n (pc2 := 65) hX 0 d_Re_tellLink_64 rfl rfl rfl ?_
        refine fg_Re_21 (pc2 := 68) hX (hK 3 0 0 (by decide) (by decide)) d_Re_tellLink_65 rfl ?_
        refine fg_Re_99 (pc2 := 71) hX (hK 8 1 0 (by decide) (by decide)) d_Re_tellLink_68 rfl ?_
        refine sx_iload_n (pc2 := 72) hX 3 d_Re_tellLink_71 rfl rfl rfl ?_
        obtain ⟨hc9, h⟩ := h
        refine sx_aalA (a := K.2.2.1 13 1 r3.toNatClampNeg) (pc2 := 73) hX (hK 12 1 0 (by decide) (by decide)) rfl rfl hc9 d_Re_tellLink_72 rfl ?_
        refine sx_iload (pc2 := 75) hX 4 d_Re_tellLink_73 rfl rfl ?_
        obtain ⟨hc10, h⟩ := h
        refine sx_iald (pc2 := 76) hX (hK 13 1 r3.toNatClampNeg (by decide) (sx_lt hc9)) rfl hc10 d_Re_tellLink_75 rfl ?_
        refine sx_iconst (v := (-1)) (pc2 := 77) hX d_Re_tellLink_76 (by decide) rfl ?_
        refine sx_icmp_eq (tgt := 91) (pc2 := 80) hX d_Re_tellLink_77 (by decide) rfl (fun hc11 => ?_) (fun hc11 => ?_)
        · replace h := sx_t h hc11
          refine sx_iload (pc2 := 93) hX 5 d_Re_tellLink_91 rfl rfl ?_
          refine sx_iconst (v := 1) (pc2 := 94) hX d_Re_tellLink_93 (by decide) rfl ?_
          refine sx_icmp_lt (tgt := 104) (pc2 := 97) hX d_Re_tellLink_94 (by decide) rfl (fun hc12 => ?_) (fun hc12 => ?_)
          · replace h := sx_t h hc12
            refine sx_sub [(0, .ref (K.2.2.1 3 0 0)), (2, .int x2)] [0, 2] rfl ?_
            exact g_Re_tellLink_b104 hX hK hE   x2 _ _ h
          · replace h := sx_f h hc12
            refine sx_iload (pc2 := 99) hX 5 d_Re_tellLink_97 rfl rfl ?_
            refine sx_bipush (v := 9) (pc2 := 101) hX d_Re_tellLink_99 (by decide) rfl ?_
            refine sx_icmp_le (tgt := 115) (pc2 := 104) hX d_Re_tellLink_101 (by decide) rfl (fun hc13 => ?_) (fun hc13 => ?_)
            · replace h := sx_t h hc13
              refine sx_aload_n (pc2 := 116) hX 0 d_Re_tellLink_115 rfl rfl rfl ?_
              refine fg_Re_21 (pc2 := 119) hX (hK 3 0 0 (by decide) (by decide)) d_Re_tellLink_116 rfl ?_
              refine sx_iload_n (pc2 := 120) hX 3 d_Re_tellLink_119 rfl rfl rfl ?_
              refine sx_iload (pc2 := 122) hX 4 d_Re_tellLink_120 rfl rfl ?_
              refine sx_iload (pc2 := 124) hX 5 d_Re_tellLink_122 rfl rfl ?_
              refine cl_Re_103 (pc2 := 127) hX hK h (by decide) ⟨Nat.le_of_ble_eq_true rfl, Nat.le_of_ble_eq_true rfl⟩ (Nat.le_of_ble_eq_true rfl) d_Re_tellLink_124 rfl (fun σ14 τ14 h => ?_)
              refine sx_sub [] [] rfl ?_
              exact g_Re_tellLink_b127 hX hK hE   _ _ h
            · replace h := sx_f h hc13
              refine sx_sub [(0, .ref (K.2.2.1 3 0 0)), (2, .int x2)] [0, 2] rfl ?_
              exact g_Re_tellLink_b104 hX hK hE   x2 _ _ h
        · replace h := sx_f h hc11
          refine sx_sub [(0, .ref (K.2.2.1 3 0 0)), (2, .int x2)] [0, 2] rfl ?_
          exact g_Re_tellLink_b80 hX hK hE   x2 _ _ h
    · replace h := sx_t h hc7
      refine sx_aload_n (pc2 := 48) hX 0 d_Re_tellLink_47 rfl rfl rfl ?_
      refine sx_iconst (v := 4) (pc2 := 49) hX d_Re_tellLink_48 (by decide) rfl ?_
      refine sx_iload_n (pc2 := 50) hX 2 d_Re_tellLink_49 rfl rfl rfl ?_
      refine sx_iconst (v := 1) (pc2 := 51) hX d_Re_tellLink_50 (by decide) rfl ?_
      refine sx_iadd (pc2 := 52) hX d_Re_tellLink_51 rfl ?_
      refine cl_Re_89 (pc2 := 55) hX hK h  ⟨Nat.le_of_ble_eq_true rfl, Nat.le_of_ble_eq_true rfl⟩ (Nat.le_of_ble_eq_true rfl) d_Re_tellLink_52 rfl (fun σ15 τ15 h => ?_)
      refine sx_goto (tgt := 127) hX d_Re_tellLink_55 (by decide) ?_
      refine sx_sub [] [] rfl ?_
      exact g_Re_tellLink_b127 hX hK hE   _ _ h
  · replace h := sx_t h hc6
    refine sx_aload_n (pc2 := 33) hX 0 d_Re_tellLink_32 rfl rfl rfl ?_
    refine sx_iconst (v := 4) (pc2 := 34) hX d_Re_tellLink_33 (by decide) rfl ?_
    refine sx_iload_n (pc2 := 35) hX 2 d_Re_tellLink_34 rfl rfl rfl ?_
    refine cl_Re_89 (pc2 := 38) hX hK h  ⟨Nat.le_of_ble_eq_true rfl, Nat.le_of_ble_eq_true rfl⟩ (Nat.le_of_ble_eq_true rfl) d_Re_tellLink_35 rfl (fun σ16 τ16 h => ?_)
    refine sx_goto (tgt := 127) hX d_Re_tellLink_38 (by decide) ?_
    refine sx_sub [] [] rfl ?_
    exact g_Re_tellLink_b127 hX hK hE   _ _ h
theorem cl_Re_74 {X : sx_T} {K : sx_K} {cc : ByteArray} {nL : Nat} {ret : Option FieldType} {rm : Room} {l : Launch} {pc pc2 : Nat} {lv : List (Nat × Value)} {st : List Value} {σ : sx_M} {τ : sx_L} {x2 : Int32} {Q : sx_M → Prop} (hX : sx_C X K cc nL "SensorTree$Reader" ret rm l) (hK : kx_C K) (h : wp_Re_tellLink x2 σ Q)  (hR : rm_Re_tellLink.frames + 1 ≤ rm.frames ∧ 8 + (6 + 11) + rm_Re_tellLink.locals ≤ rm.locals) (hst : (st.map fun v => v.category).sum ≤ 8) (hd : decode cc pc = .ok (.invokevirtual 74, 3)) (hpc : pc + 3 = pc2) (kk : ∀ (σ2 : sx_M) (τ2 : sx_L), Q σ2 → sx_G X K nL pc2 lv (st) (sx_H K σ2 τ2)) : sx_G X K nL pc lv (.int x2 :: .ref (K.2.2.1 1 0 0) :: .ref (K.2.2.1 3 0 0) :: st) (sx_H K σ τ) :=
  sx_callVv (Q := fun σ _ => Q σ) (As := [.ref (K.2.2.1 1 0 0), .int x2]) hX (c_Re_tellLink hK x2 σ τ Q  h) (hK 3 0 0 (by decide) (by decide)) rfl rfl lk_219 ls_11 hy_Re_tellLink lk_217 lk_192 lk_218 ⟨rfl, rfl⟩ hR hst rfl hd hpc kk
def y_Ta_putFour : MethodName := ⟨"SensorTree$Tape", "putFour", "(I)V"⟩
theorem hy_Ta_putFour : y_Ta_putFour.cls ≠ "java/lang/invoke/MethodHandle" ∧ y_Ta_putFour.cls ≠ "java/lang/invoke/VarHandle" ∧ (parseMethodDescriptor y_Ta_putFour.desc).map (fun d => d.parameters.length) = some 1 := by decide +kernel
theorem d_Ta_putFour_0 : decode prog_9_method_2_code 0 = .ok (.bipush 24, 2) := by decide +kernel
theorem d_Ta_putFour_2 : decode prog_9_method_2_code 2 = .ok (.istore_n 2, 1) := by decide +kernel
theorem d_Ta_putFour_3 : decode prog_9_method_2_code 3 = .ok (.iload_n 2, 1) := by decide +kernel
theorem d_Ta_putFour_4 : decode prog_9_method_2_code 4 = .ok (.ifCond .lt 42, 3) := by decide +kernel
theorem d_Ta_putFour_7 : decode prog_9_method_2_code 7 = .ok (.aload_n 0, 1) := by decide +kernel
theorem d_Ta_putFour_8 : decode prog_9_method_2_code 8 = .ok (.getfield 15, 3) := by decide +kernel
theorem d_Ta_putFour_11 : decode prog_9_method_2_code 11 = .ok (.sipush 2000, 3) := by decide +kernel
theorem d_Ta_putFour_14 : decode prog_9_method_2_code 14 = .ok (.if_icmp .ge 26, 3) := by decide +kernel
theorem d_Ta_putFour_17 : decode prog_9_method_2_code 17 = .ok (.aload_n 0, 1) := by decide +kernel
theorem d_Ta_putFour_18 : decode prog_9_method_2_code 18 = .ok (.getfield 9, 3) := by decide +kernel
theorem d_Ta_putFour_21 : decode prog_9_method_2_code 21 = .ok (.aload_n 0, 1) := by decide +kernel
theorem d_Ta_putFour_22 : decode prog_9_method_2_code 22 = .ok (.getfield 15, 3) := by decide +kernel
theorem d_Ta_putFour_25 : decode prog_9_method_2_code 25 = .ok (.iload_n 1, 1) := by decide +kernel
theorem d_Ta_putFour_26 : decode prog_9_method_2_code 26 = .ok (.iload_n 2, 1) := by decide +kernel
theorem d_Ta_putFour_27 : decode prog_9_method_2_code 27 = .ok (.iushr, 1) := by decide +kernel
theorem d_Ta_putFour_28 : decode prog_9_method_2_code 28 = .ok (.i2b, 1) := by decide +kernel
theorem d_Ta_putFour_29 : decode prog_9_method_2_code 29 = .ok (.bastore, 1) := by decide +kernel
theorem d_Ta_putFour_30 : decode prog_9_method_2_code 30 = .ok (.aload_n 0, 1) := by decide +kernel
theorem d_Ta_putFour_31 : decode prog_9_method_2_code 31 = .ok (.dup, 1) := by decide +kernel
theorem d_Ta_putFour_32 : decode prog_9_method_2_code 32 = .ok (.getfield 15, 3) := by decide +kernel
theorem d_Ta_putFour_35 : decode prog_9_method_2_code 35 = .ok (.iconst 1, 1) := by decide +kernel
theorem d_Ta_putFour_36 : decode prog_9_method_2_code 36 = .ok (.iadd, 1) := by decide +kernel
theorem d_Ta_putFour_37 : decode prog_9_method_2_code 37 = .ok (.putfield 15, 3) := by decide +kernel
theorem d_Ta_putFour_40 : decode prog_9_method_2_code 40 = .ok (.iinc 2 (-8), 3) := by decide +kernel
theorem d_Ta_putFour_43 : decode prog_9_method_2_code 43 = .ok (.goto (-40), 3) := by decide +kernel
theorem d_Ta_putFour_46 : decode prog_9_method_2_code 46 = .ok (.return_, 1) := by decide +kernel
def wp_Ta_putFour_b40  (k3 : Int32 → Int32 → sx_M → Prop) (Q : sx_M → Prop) (v1 : Int32) (v2 : Int32) (σ : sx_M) : Prop := k3 v1 (v2 + (-8)) σ
def wp_Ta_putFour_b3   (Q : sx_M → Prop) : Nat → Int32 → Int32 → sx_M → Prop
  | 0, _, _, _ => False
  | f + 1, v1, v2, σ => if v2 < 0 then (Q σ) else (if 2000 ≤ σ 1 0 0 1 then (wp_Ta_putFour_b40 (wp_Ta_putFour_b3 Q f) Q v1 v2 σ) else (vp_in (σ 1 0 0 1) 2000 ∧ (∀ σ4 : sx_M, σ4 = sx_u σ 2 0 0 (σ 1 0 0 1).toNatClampNeg (vp_nar .byte (((v1.toUInt32 >>> (v2.toUInt32 &&& Int32.toUInt32 31)).toInt32).toInt8.toInt32)) → (∀ σ5 : sx_M, σ5 = sx_u σ4 1 0 0 1 ((σ4 1 0 0 1) + 1) → (wp_Ta_putFour_b40 (wp_Ta_putFour_b3 Q f) Q v1 v2 σ5)))))
def wp_Ta_putFour (x1 : Int32) (σ : sx_M) (Q : sx_M → Prop) : Prop := ∃ f3, wp_Ta_putFour_b3 Q f3 x1 24 σ
abbrev rm_Ta_putFour : Room := { frames := 0, cells := 0, slots := 0, locals := 0 }
set_option maxRecDepth 100000 in
set_option maxHeartbeats 4000000 in
theorem g_Ta_putFour_b40 {l : Launch} {K : sx_K} {X : sx_T}  {k3 : Int32 → Int32 → sx_M → Prop} {Q : sx_M → Prop} (hX : sx_C X K prog_9_method_2_code 3 "SensorTree$Tape" none rm_Ta_putFour l) (hK : kx_C K) (hE : sx_E X K (sx_Qv K (fun σ _ => Q σ)))  (hk3 : ∀ (v1 : Int32) (v2 : Int32) (σ : sx_M) (τ : sx_L) , k3 v1 v2 σ → sx_G X K 3 3 [(0, .ref (K.2.2.1 1 0 0)), (1, .int v1), (2, .int v2)] [] (sx_H K σ τ)) (v1 : Int32) (v2 : Int32) (σ : sx_M) (τ : sx_L)  (h : wp_Ta_putFour_b40 k3 Q  v1 v2 σ) : sx_G X K 3 40 [(0, .ref (K.2.2.1 1 0 0)), (1, .int v1), (2, .int v2)] [] (sx_H K σ τ) := by
  unfold wp_Ta_putFour_b40 at h
  refine sx_iinc (pc2 := 43) hX 2 _ [(0, .ref (K.2.2.1 1 0 0)), (1, .int v1), (2, .int (v2 + (-8)))] [1, 2, 0] d_Ta_putFour_40 rfl (v2 + (-8)) rfl (by decide) rfl rfl rfl ?_
  refine sx_goto (tgt := 3) hX d_Ta_putFour_43 (by decide) ?_
  exact hk3 v1 (v2 + (-8)) _ _ h
set_option maxRecDepth 100000 in
set_option maxHeartbeats 4000000 in
theorem g_Ta_putFour_b3 {l : Launch} {K : sx_K} {X : sx_T}   {Q : sx_M → Prop} (hX : sx_C X K prog_9_method_2_code 3 "SensorTree$Tape" none rm_Ta_putFour l) (hK : kx_C K) (hE : sx_E X K (sx_Qv K (fun σ _ => Q σ)))  : ∀ (f : Nat) (v1 : Int32) (v2 : Int32) (σ : sx_M) (τ : sx_L) , wp_Ta_putFour_b3 Q f v1 v2 σ → sx_G X K 3 3 [(0, .ref (K.2.2.1 1 0 0)), (1, .int v1), (2, .int v2)] [] (sx_H K σ τ) := by
  intro f
  induction f with
  | zero => intro v1 v2 σ τ h; exact (show False from h).elim
  | succ f ih =>
    intro v1 v2 σ τ h
    rw [wp_Ta_putFour_b3] at h
    refine sx_iload_n (pc2 := 4) hX 2 d_Ta_putFour_3 rfl rfl rfl ?_
    refine sx_if_lt (tgt := 46) (pc2 := 7) hX d_Ta_putFour_4 (by decide) rfl (fun hc1 => ?_) (fun hc1 => ?_)
    · replace h := sx_t h hc1
      exact sx_vret hX hE h d_Ta_putFour_46
    · replace h := sx_f h hc1
      refine sx_aload_n (pc2 := 8) hX 0 d_Ta_putFour_7 rfl rfl rfl ?_
      refine fg_Ta_15 (pc2 := 11) hX (hK 1 0 0 (by decide) (by decide)) d_Ta_putFour_8 rfl ?_
      refine sx_sipush (v := 2000) (pc2 := 14) hX d_Ta_putFour_11 (by decide) rfl ?_
      refine sx_icmp_ge (tgt := 40) (pc2 := 17) hX d_Ta_putFour_14 (by decide) rfl (fun hc2 => ?_) (fun hc2 => ?_)
      · replace h := sx_t h hc2
        exact g_Ta_putFour_b40 hX hK hE  ih v1 v2 _ _ h
      · replace h := sx_f h hc2
        refine sx_aload_n (pc2 := 18) hX 0 d_Ta_putFour_17 rfl rfl rfl ?_
        refine fg_Ta_9 (pc2 := 21) hX (hK 1 0 0 (by decide) (by decide)) d_Ta_putFour_18 rfl ?_
        refine sx_aload_n (pc2 := 22) hX 0 d_Ta_putFour_21 rfl rfl rfl ?_
        refine fg_Ta_15 (pc2 := 25) hX (hK 1 0 0 (by decide) (by decide)) d_Ta_putFour_22 rfl ?_
        refine sx_iload_n (pc2 := 26) hX 1 d_Ta_putFour_25 rfl rfl rfl ?_
        refine sx_iload_n (pc2 := 27) hX 2 d_Ta_putFour_26 rfl rfl rfl ?_
        refine sx_iushr (pc2 := 28) hX d_Ta_putFour_27 rfl ?_
        refine sx_i2b (pc2 := 29) hX d_Ta_putFour_28 rfl ?_
        obtain ⟨hc3, h⟩ := h
        refine sx_bast (pc2 := 30) hX (hK 2 0 0 (by decide) (by decide)) (fun _ => rfl) hc3 d_Ta_putFour_29 rfl ?_
        refine sx_nm (fun σ4 e4 => ?_)
        replace h := h σ4 e4
        refine sx_aload_n (pc2 := 31) hX 0 d_Ta_putFour_30 rfl rfl rfl ?_
        refine sx_dup (pc2 := 32) hX d_Ta_putFour_31 rfl rfl ?_
        refine fg_Ta_15 (pc2 := 35) hX (hK 1 0 0 (by decide) (by decide)) d_Ta_putFour_32 rfl ?_
        refine sx_iconst (v := 1) (pc2 := 36) hX d_Ta_putFour_35 (by decide) rfl ?_
        refine sx_iadd (pc2 := 37) hX d_Ta_putFour_36 rfl ?_
        refine fp_Ta_15 (pc2 := 40) hX (hK 1 0 0 (by decide) (by decide)) d_Ta_putFour_37 rfl ?_
        refine sx_nm (fun σ5 e5 => ?_)
        replace h := h σ5 e5
        exact g_Ta_putFour_b40 hX hK hE  ih v1 v2 _ _ h
set_option maxRecDepth 100000 in
set_option maxHeartbeats 4000000 in
theorem c_Ta_putFour {l : Launch} {K : sx_K} (hK : kx_C K) (x1 : Int32) (σ : sx_M) (τ : sx_L) (Q : sx_M → Prop)  (h : wp_Ta_putFour x1 σ Q) : Met l y_Ta_putFour (sx_wd y_Ta_putFour prog_9_method_2_code 3 none) rm_Ta_putFour (sx_Pc K [.ref (K.2.2.1 1 0 0), .int x1] σ τ) (sx_Qv K (fun σ _ => Q σ)) 0 0 (sx_A K) := by
  refine sx_met (by decide) (Nat.le_of_ble_eq_true rfl) (fun X hX hE => ?_)
  replace hX : sx_C X K prog_9_method_2_code 3 "SensorTree$Tape" none rm_Ta_putFour l := hX
  show sx_G X K 3 0 [(0, .ref (K.2.2.1 1 0 0)), (1, .int x1)] [] (sx_H K σ τ)
  unfold wp_Ta_putFour at h
  refine sx_bipush (v := 24) (pc2 := 2) hX d_Ta_putFour_0 (by decide) rfl ?_
  refine sx_istore_n (pc2 := 3) hX _ [(0, .ref (K.2.2.1 1 0 0)), (1, .int x1), (2, .int 24)] [1, 2, 0] d_Ta_putFour_2 rfl (by decide) rfl rfl rfl ?_
  obtain ⟨f3, h⟩ := h
  exact g_Ta_putFour_b3 hX hK hE   f3 x1 24 _ _ h
theorem cl_St_92 {X : sx_T} {K : sx_K} {cc : ByteArray} {nL : Nat} {ret : Option FieldType} {rm : Room} {l : Launch} {pc pc2 : Nat} {lv : List (Nat × Value)} {st : List Value} {σ : sx_M} {τ : sx_L} {x1 : Int32} {Q : sx_M → Prop} (hX : sx_C X K cc nL "SensorTree" ret rm l) (hK : kx_C K) (h : wp_Ta_putFour x1 σ Q)  (hR : rm_Ta_putFour.frames + 1 ≤ rm.frames ∧ 8 + (3 + 11) + rm_Ta_putFour.locals ≤ rm.locals) (hst : (st.map fun v => v.category).sum ≤ 8) (hd : decode cc pc = .ok (.invokevirtual 92, 3)) (hpc : pc + 3 = pc2) (kk : ∀ (σ2 : sx_M) (τ2 : sx_L), Q σ2 → sx_G X K nL pc2 lv (st) (sx_H K σ2 τ2)) : sx_G X K nL pc lv (.int x1 :: .ref (K.2.2.1 1 0 0) :: st) (sx_H K σ τ) :=
  sx_callVv (Q := fun σ _ => Q σ) (As := [.int x1]) hX (c_Ta_putFour hK x1 σ τ Q  h) (hK 1 0 0 (by decide) (by decide)) rfl rfl lk_246 lk_247 hy_Ta_putFour lk_244 lk_131 lk_245 ⟨rfl, rfl⟩ hR hst rfl hd hpc kk
def y_Tr_reckon : MethodName := ⟨"SensorTree$Truth", "reckon", "(LSensorTree$Net;I)V"⟩
theorem hy_Tr_reckon : y_Tr_reckon.cls ≠ "java/lang/invoke/MethodHandle" ∧ y_Tr_reckon.cls ≠ "java/lang/invoke/VarHandle" ∧ (parseMethodDescriptor y_Tr_reckon.desc).map (fun d => d.parameters.length) = some 2 := by decide +kernel
theorem d_Tr_reckon_0 : decode prog_11_method_2_code 0 = .ok (.aload_n 1, 1) := by decide +kernel
theorem d_Tr_reckon_1 : decode prog_11_method_2_code 1 = .ok (.getfield 15, 3) := by decide +kernel
theorem d_Tr_reckon_4 : decode prog_11_method_2_code 4 = .ok (.astore_n 3, 1) := by decide +kernel
theorem d_Tr_reckon_5 : decode prog_11_method_2_code 5 = .ok (.iconst 0, 1) := by decide +kernel
theorem d_Tr_reckon_6 : decode prog_11_method_2_code 6 = .ok (.istore 4, 2) := by decide +kernel
theorem d_Tr_reckon_8 : decode prog_11_method_2_code 8 = .ok (.iload 4, 2) := by decide +kernel
theorem d_Tr_reckon_10 : decode prog_11_method_2_code 10 = .ok (.bipush 7, 2) := by decide +kernel
theorem d_Tr_reckon_12 : decode prog_11_method_2_code 12 = .ok (.if_icmp .ge 19, 3) := by decide +kernel
theorem d_Tr_reckon_15 : decode prog_11_method_2_code 15 = .ok (.aload_n 0, 1) := by decide +kernel
theorem d_Tr_reckon_16 : decode prog_11_method_2_code 16 = .ok (.getfield 9, 3) := by decide +kernel
theorem d_Tr_reckon_19 : decode prog_11_method_2_code 19 = .ok (.iload 4, 2) := by decide +kernel
theorem d_Tr_reckon_21 : decode prog_11_method_2_code 21 = .ok (.sipush 9999, 3) := by decide +kernel
theorem d_Tr_reckon_24 : decode prog_11_method_2_code 24 = .ok (.iastore, 1) := by decide +kernel
theorem d_Tr_reckon_25 : decode prog_11_method_2_code 25 = .ok (.iinc 4 1, 3) := by decide +kernel
theorem d_Tr_reckon_28 : decode prog_11_method_2_code 28 = .ok (.goto (-20), 3) := by decide +kernel
theorem d_Tr_reckon_31 : decode prog_11_method_2_code 31 = .ok (.aload_n 0, 1) := by decide +kernel
theorem d_Tr_reckon_32 : decode prog_11_method_2_code 32 = .ok (.getfield 9, 3) := by decide +kernel
theorem d_Tr_reckon_35 : decode prog_11_method_2_code 35 = .ok (.iconst 0, 1) := by decide +kernel
theorem d_Tr_reckon_36 : decode prog_11_method_2_code 36 = .ok (.bipush 10, 2) := by decide +kernel
theorem d_Tr_reckon_38 : decode prog_11_method_2_code 38 = .ok (.iastore, 1) := by decide +kernel
theorem d_Tr_reckon_39 : decode prog_11_method_2_code 39 = .ok (.iconst 1, 1) := by decide +kernel
theorem d_Tr_reckon_40 : decode prog_11_method_2_code 40 = .ok (.istore 4, 2) := by decide +kernel
theorem d_Tr_reckon_42 : decode prog_11_method_2_code 42 = .ok (.iload 4, 2) := by decide +kernel
theorem d_Tr_reckon_44 : decode prog_11_method_2_code 44 = .ok (.aload_n 3, 1) := by decide +kernel
theorem d_Tr_reckon_45 : decode prog_11_method_2_code 45 = .ok (.getfield 21, 3) := by decide +kernel
theorem d_Tr_reckon_48 : decode prog_11_method_2_code 48 = .ok (.if_icmp .ge 124, 3) := by decide +kernel
theorem d_Tr_reckon_51 : decode prog_11_method_2_code 51 = .ok (.iconst 0, 1) := by decide +kernel
theorem d_Tr_reckon_52 : decode prog_11_method_2_code 52 = .ok (.istore 5, 2) := by decide +kernel
theorem d_Tr_reckon_54 : decode prog_11_method_2_code 54 = .ok (.iload 5, 2) := by decide +kernel
theorem d_Tr_reckon_56 : decode prog_11_method_2_code 56 = .ok (.aload_n 3, 1) := by decide +kernel
theorem d_Tr_reckon_57 : decode prog_11_method_2_code 57 = .ok (.getfield 27, 3) := by decide +kernel
theorem d_Tr_reckon_60 : decode prog_11_method_2_code 60 = .ok (.if_icmp .ge 106, 3) := by decide +kernel
theorem d_Tr_reckon_63 : decode prog_11_method_2_code 63 = .ok (.aload_n 3, 1) := by decide +kernel
theorem d_Tr_reckon_64 : decode prog_11_method_2_code 64 = .ok (.getfield 30, 3) := by decide +kernel
theorem d_Tr_reckon_67 : decode prog_11_method_2_code 67 = .ok (.iload 5, 2) := by decide +kernel
theorem d_Tr_reckon_69 : decode prog_11_method_2_code 69 = .ok (.iaload, 1) := by decide +kernel
theorem d_Tr_reckon_70 : decode prog_11_method_2_code 70 = .ok (.istore 6, 2) := by decide +kernel
theorem d_Tr_reckon_72 : decode prog_11_method_2_code 72 = .ok (.aload_n 3, 1) := by decide +kernel
theorem d_Tr_reckon_73 : decode prog_11_method_2_code 73 = .ok (.getfield 33, 3) := by decide +kernel
theorem d_Tr_reckon_76 : decode prog_11_method_2_code 76 = .ok (.iload 5, 2) := by decide +kernel
theorem d_Tr_reckon_78 : decode prog_11_method_2_code 78 = .ok (.iaload, 1) := by decide +kernel
theorem d_Tr_reckon_79 : decode prog_11_method_2_code 79 = .ok (.istore 7, 2) := by decide +kernel
theorem d_Tr_reckon_81 : decode prog_11_method_2_code 81 = .ok (.iload 5, 2) := by decide +kernel
theorem d_Tr_reckon_83 : decode prog_11_method_2_code 83 = .ok (.iload_n 2, 1) := by decide +kernel
theorem d_Tr_reckon_84 : decode prog_11_method_2_code 84 = .ok (.if_icmp .eq 76, 3) := by decide +kernel
theorem d_Tr_reckon_87 : decode prog_11_method_2_code 87 = .ok (.aload_n 1, 1) := by decide +kernel
theorem d_Tr_reckon_88 : decode prog_11_method_2_code 88 = .ok (.iload 6, 2) := by decide +kernel
theorem d_Tr_reckon_90 : decode prog_11_method_2_code 90 = .ok (.iload 7, 2) := by decide +kernel
theorem d_Tr_reckon_92 : decode prog_11_method_2_code 92 = .ok (.invokevirtual 36, 3) := by decide +kernel
theorem d_Tr_reckon_95 : decode prog_11_method_2_code 95 = .ok (.ifCond .eq 65, 3) := by decide +kernel
theorem d_Tr_reckon_98 : decode prog_11_method_2_code 98 = .ok (.aload_n 1, 1) := by decide +kernel
theorem d_Tr_reckon_99 : decode prog_11_method_2_code 99 = .ok (.iload 5, 2) := by decide +kernel
theorem d_Tr_reckon_101 : decode prog_11_method_2_code 101 = .ok (.invokevirtual 40, 3) := by decide +kernel
theorem d_Tr_reckon_104 : decode prog_11_method_2_code 104 = .ok (.istore 8, 2) := by decide +kernel
theorem d_Tr_reckon_106 : decode prog_11_method_2_code 106 = .ok (.aload_n 0, 1) := by decide +kernel
theorem d_Tr_reckon_107 : decode prog_11_method_2_code 107 = .ok (.getfield 9, 3) := by decide +kernel
theorem d_Tr_reckon_110 : decode prog_11_method_2_code 110 = .ok (.iload 6, 2) := by decide +kernel
theorem d_Tr_reckon_112 : decode prog_11_method_2_code 112 = .ok (.aload_n 0, 1) := by decide +kernel
theorem d_Tr_reckon_113 : decode prog_11_method_2_code 113 = .ok (.getfield 9, 3) := by decide +kernel
theorem d_Tr_reckon_116 : decode prog_11_method_2_code 116 = .ok (.iload 6, 2) := by decide +kernel
theorem d_Tr_reckon_118 : decode prog_11_method_2_code 118 = .ok (.iaload, 1) := by decide +kernel
theorem d_Tr_reckon_119 : decode prog_11_method_2_code 119 = .ok (.aload_n 0, 1) := by decide +kernel
theorem d_Tr_reckon_120 : decode prog_11_method_2_code 120 = .ok (.getfield 9, 3) := by decide +kernel
theorem d_Tr_reckon_123 : decode prog_11_method_2_code 123 = .ok (.iload 7, 2) := by decide +kernel
theorem d_Tr_reckon_125 : decode prog_11_method_2_code 125 = .ok (.iaload, 1) := by decide +kernel
theorem d_Tr_reckon_126 : decode prog_11_method_2_code 126 = .ok (.iload 8, 2) := by decide +kernel
theorem d_Tr_reckon_128 : decode prog_11_method_2_code 128 = .ok (.iadd, 1) := by decide +kernel
theorem d_Tr_reckon_129 : decode prog_11_method_2_code 129 = .ok (.invokestatic 44, 3) := by decide +kernel
theorem d_Tr_reckon_132 : decode prog_11_method_2_code 132 = .ok (.iastore, 1) := by decide +kernel
theorem d_Tr_reckon_133 : decode prog_11_method_2_code 133 = .ok (.aload_n 0, 1) := by decide +kernel
theorem d_Tr_reckon_134 : decode prog_11_method_2_code 134 = .ok (.getfield 9, 3) := by decide +kernel
theorem d_Tr_reckon_137 : decode prog_11_method_2_code 137 = .ok (.iload 7, 2) := by decide +kernel
theorem d_Tr_reckon_139 : decode prog_11_method_2_code 139 = .ok (.aload_n 0, 1) := by decide +kernel
theorem d_Tr_reckon_140 : decode prog_11_method_2_code 140 = .ok (.getfield 9, 3) := by decide +kernel
theorem d_Tr_reckon_143 : decode prog_11_method_2_code 143 = .ok (.iload 7, 2) := by decide +kernel
theorem d_Tr_reckon_145 : decode prog_11_method_2_code 145 = .ok (.iaload, 1) := by decide +kernel
theorem d_Tr_reckon_146 : decode prog_11_method_2_code 146 = .ok (.aload_n 0, 1) := by decide +kernel
theorem d_Tr_reckon_147 : decode prog_11_method_2_code 147 = .ok (.getfield 9, 3) := by decide +kernel
theorem d_Tr_reckon_150 : decode prog_11_method_2_code 150 = .ok (.iload 6, 2) := by decide +kernel
theorem d_Tr_reckon_152 : decode prog_11_method_2_code 152 = .ok (.iaload, 1) := by decide +kernel
theorem d_Tr_reckon_153 : decode prog_11_method_2_code 153 = .ok (.iload 8, 2) := by decide +kernel
theorem d_Tr_reckon_155 : decode prog_11_method_2_code 155 = .ok (.iadd, 1) := by decide +kernel
theorem d_Tr_reckon_156 : decode prog_11_method_2_code 156 = .ok (.invokestatic 44, 3) := by decide +kernel
theorem d_Tr_reckon_159 : decode prog_11_method_2_code 159 = .ok (.iastore, 1) := by decide +kernel
theorem d_Tr_reckon_160 : decode prog_11_method_2_code 160 = .ok (.iinc 5 1, 3) := by decide +kernel
theorem d_Tr_reckon_163 : decode prog_11_method_2_code 163 = .ok (.goto (-109), 3) := by decide +kernel
theorem d_Tr_reckon_166 : decode prog_11_method_2_code 166 = .ok (.iinc 4 1, 3) := by decide +kernel
theorem d_Tr_reckon_169 : decode prog_11_method_2_code 169 = .ok (.goto (-127), 3) := by decide +kernel
theorem d_Tr_reckon_172 : decode prog_11_method_2_code 172 = .ok (.return_, 1) := by decide +kernel
def wp_Tr_reckon_b160  (k42 : Nat → Int32 → Nat → Int32 → sx_M → Prop) (k54 : Nat → Int32 → Nat → Int32 → Int32 → sx_M → Prop) (Q : sx_M → Prop) (v1n : Nat) (v2 : Int32) (v3n : Nat) (v4 : Int32) (v5 : Int32) (σ : sx_M) : Prop := k54 v1n v2 v3n v4 (v5 + 1) σ
def wp_Tr_reckon_b54  (k42 : Nat → Int32 → Nat → Int32 → sx_M → Prop) (Q : sx_M → Prop) : Nat → Nat → Int32 → Nat → Int32 → Int32 → sx_M → Prop
  | 0, _, _, _, _, _, _ => False
  | f + 1, v1n, v2, v3n, v4, v5, σ => if σ 8 v3n 0 1 ≤ v5 then (k42 v1n v2 v3n (v4 + 1) σ) else (vp_in v5 16 ∧ (vp_in v5 16 ∧ (if v5 = v2 then (wp_Tr_reckon_b160 k42 (wp_Tr_reckon_b54 k42 Q f) Q v1n v2 v3n v4 v5 σ) else (wp_Ne_areNeighbours v1n (σ 9 v3n 0 v5.toNatClampNeg) (σ 10 v3n 0 v5.toNatClampNeg) σ (fun r5 σ5 => if r5 = 0 then (wp_Tr_reckon_b160 k42 (wp_Tr_reckon_b54 k42 Q f) Q v1n v2 v3n v4 v5 σ5) else (wp_Ne_stepOf v1n v5 σ5 (fun r7 σ7 => vp_in (σ 9 v3n 0 v5.toNatClampNeg) 7 ∧ (vp_in (σ 10 v3n 0 v5.toNatClampNeg) 7 ∧ (vp_in (σ 9 v3n 0 v5.toNatClampNeg) 7 ∧ (∀ σ11 : sx_M, σ11 = sx_u σ7 33 0 0 (σ 9 v3n 0 v5.toNatClampNeg).toNatClampNeg (if (σ7 33 0 0 (σ 10 v3n 0 v5.toNatClampNeg).toNatClampNeg) + r7 < σ7 33 0 0 (σ 9 v3n 0 v5.toNatClampNeg).toNatClampNeg then (σ7 33 0 0 (σ 10 v3n 0 v5.toNatClampNeg).toNatClampNeg) + r7 else σ7 33 0 0 (σ 9 v3n 0 v5.toNatClampNeg).toNatClampNeg) → (vp_in (σ 10 v3n 0 v5.toNatClampNeg) 7 ∧ (vp_in (σ 9 v3n 0 v5.toNatClampNeg) 7 ∧ (vp_in (σ 10 v3n 0 v5.toNatClampNeg) 7 ∧ (∀ σ15 : sx_M, σ15 = sx_u σ11 33 0 0 (σ 10 v3n 0 v5.toNatClampNeg).toNatClampNeg (if (σ11 33 0 0 (σ 9 v3n 0 v5.toNatClampNeg).toNatClampNeg) + r7 < σ11 33 0 0 (σ 10 v3n 0 v5.toNatClampNeg).toNatClampNeg then (σ11 33 0 0 (σ 9 v3n 0 v5.toNatClampNeg).toNatClampNeg) + r7 else σ11 33 0 0 (σ 10 v3n 0 v5.toNatClampNeg).toNatClampNeg) → (wp_Tr_reckon_b160 k42 (wp_Tr_reckon_b54 k42 Q f) Q v1n v2 v3n v4 v5 σ15)))))))))))))))
def wp_Tr_reckon_b42   (Q : sx_M → Prop) : Nat → Nat → Int32 → Nat → Int32 → sx_M → Prop
  | 0, _, _, _, _, _ => False
  | f + 1, v1n, v2, v3n, v4, σ => if σ 8 v3n 0 0 ≤ v4 then (Q σ) else (∃ f54, wp_Tr_reckon_b54 (wp_Tr_reckon_b42 Q f) Q f54 v1n v2 v3n v4 0 σ)
def wp_Tr_reckon_b8   (Q : sx_M → Prop) : Nat → Nat → Int32 → Nat → Int32 → sx_M → Prop
  | 0, _, _, _, _, _ => False
  | f + 1, v1n, v2, v3n, v4, σ => if 7 ≤ v4 then (vp_in 0 7 ∧ (∀ σ19 : sx_M, σ19 = sx_u σ 33 0 0 (0 : Int32).toNatClampNeg 10 → (∃ f42, wp_Tr_reckon_b42 Q f42 v1n v2 v3n 1 σ19))) else (vp_in v4 7 ∧ (∀ σ21 : sx_M, σ21 = sx_u σ 33 0 0 v4.toNatClampNeg 9999 → (wp_Tr_reckon_b8 Q f v1n v2 v3n (v4 + 1) σ21)))
def wp_Tr_reckon (n1 : Nat) (x2 : Int32) (σ : sx_M) (Q : sx_M → Prop) : Prop := ∃ f8, wp_Tr_reckon_b8 Q f8 n1 x2 0 0 σ
abbrev rm_Tr_reckon : Room := { frames := 1, cells := 0, slots := 0, locals := 23 }
set_option maxRecDepth 100000 in
set_option maxHeartbeats 4000000 in
theorem g_Tr_reckon_b160 {l : Launch} {K : sx_K} {X : sx_T}  {k42 : Nat → Int32 → Nat → Int32 → sx_M → Prop} {k54 : Nat → Int32 → Nat → Int32 → Int32 → sx_M → Prop} {Q : sx_M → Prop} (hX : sx_C X K prog_11_method_2_code 9 "SensorTree$Truth" none rm_Tr_reckon l) (hK : kx_C K) (hE : sx_E X K (sx_Qv K (fun σ _ => Q σ)))  (hk42 : ∀ (v1n : Nat) (v2 : Int32) (v3n : Nat) (v4 : Int32) (σ : sx_M) (τ : sx_L) (hv1n : v1n < 25) (hv3n : v3n < 2), k42 v1n v2 v3n v4 σ → sx_G X K 9 42 [(0, .ref (K.2.2.1 32 0 0)), (1, .ref (K.2.2.1 16 v1n 0)), (2, .int v2), (3, .ref (K.2.2.1 8 v3n 0)), (4, .int v4)] [] (sx_H K σ τ)) (hk54 : ∀ (v1n : Nat) (v2 : Int32) (v3n : Nat) (v4 : Int32) (v5 : Int32) (σ : sx_M) (τ : sx_L) (hv1n : v1n < 25) (hv3n : v3n < 2), k54 v1n v2 v3n v4 v5 σ → sx_G X K 9 54 [(0, .ref (K.2.2.1 32 0 0)), (1, .ref (K.2.2.1 16 v1n 0)), (2, .int v2), (3, .ref (K.2.2.1 8 v3n 0)), (4, .int v4), (5, .int v5)] [] (sx_H K σ τ)) (v1n : Nat) (v2 : Int32) (v3n : Nat) (v4 : Int32) (v5 : Int32) (σ : sx_M) (τ : sx_L) (hv1n : v1n < 25) (hv3n : v3n < 2) (h : wp_Tr_reckon_b160 k42 k54 Q  v1n v2 v3n v4 v5 σ) : sx_G X K 9 160 [(0, .ref (K.2.2.1 32 0 0)), (1, .ref (K.2.2.1 16 v1n 0)), (2, .int v2), (3, .ref (K.2.2.1 8 v3n 0)), (4, .int v4), (5, .int v5)] [] (sx_H K σ τ) := by
  unfold wp_Tr_reckon_b160 at h
  refine sx_iinc (pc2 := 163) hX 5 _ [(0, .ref (K.2.2.1 32 0 0)), (1, .ref (K.2.2.1 16 v1n 0)), (2, .int v2), (3, .ref (K.2.2.1 8 v3n 0)), (4, .int v4), (5, .int (v5 + 1))] [1, 2, 3, 4, 5, 0] d_Tr_reckon_160 rfl (v5 + 1) rfl (by decide) rfl rfl rfl ?_
  refine sx_goto (tgt := 54) hX d_Tr_reckon_163 (by decide) ?_
  exact hk54 v1n v2 v3n v4 (v5 + 1) _ _ hv1n hv3n h
set_option maxRecDepth 100000 in
set_option maxHeartbeats 4000000 in
theorem g_Tr_reckon_b54 {l : Launch} {K : sx_K} {X : sx_T}  {k42 : Nat → Int32 → Nat → Int32 → sx_M → Prop} {Q : sx_M → Prop} (hX : sx_C X K prog_11_method_2_code 9 "SensorTree$Truth" none rm_Tr_reckon l) (hK : kx_C K) (hE : sx_E X K (sx_Qv K (fun σ _ => Q σ)))  (hk42 : ∀ (v1n : Nat) (v2 : Int32) (v3n : Nat) (v4 : Int32) (σ : sx_M) (τ : sx_L) (hv1n : v1n < 25) (hv3n : v3n < 2), k42 v1n v2 v3n v4 σ → sx_G X K 9 42 [(0, .ref (K.2.2.1 32 0 0)), (1, .ref (K.2.2.1 16 v1n 0)), (2, .int v2), (3, .ref (K.2.2.1 8 v3n 0)), (4, .int v4)] [] (sx_H K σ τ)) : ∀ (f : Nat) (v1n : Nat) (v2 : Int32) (v3n : Nat) (v4 : Int32) (v5 : Int32) (σ : sx_M) (τ : sx_L) (hv1n : v1n < 25) (hv3n : v3n < 2), wp_Tr_reckon_b54 k42 Q f v1n v2 v3n v4 v5 σ → sx_G X K 9 54 [(0, .ref (K.2.2.1 32 0 0)), (1, .ref (K.2.2.1 16 v1n 0)), (2, .int v2), (3, .ref (K.2.2.1 8 v3n 0)), (4, .int v4), (5, .int v5)] [] (sx_H K σ τ) := by
  intro f
  induction f with
  | zero => intro v1n v2 v3n v4 v5 σ τ hv1n hv3n h; exact (show False from h).elim
  | succ f ih =>
    intro v1n v2 v3n v4 v5 σ τ hv1n hv3n h
    rw [wp_Tr_reckon_b54] at h
    refine sx_iload (pc2 := 56) hX 5 d_Tr_reckon_54 rfl rfl ?_
    refine sx_aload_n (pc2 := 57) hX 3 d_Tr_reckon_56 rfl rfl rfl ?_
    refine fg_Tr_27 (pc2 := 60) hX (hK 8 v3n 0 hv3n (by decide)) d_Tr_reckon_57 rfl ?_
    refine sx_icmp_ge (tgt := 166) (pc2 := 63) hX d_Tr_reckon_60 (by decide) rfl (fun hc1 => ?_) (fun hc1 => ?_)
    · replace h := sx_t h hc1
      refine sx_iinc (pc2 := 169) hX 4 _ [(0, .ref (K.2.2.1 32 0 0)), (1, .ref (K.2.2.1 16 v1n 0)), (2, .int v2), (3, .ref (K.2.2.1 8 v3n 0)), (4, .int (v4 + 1)), (5, .int v5)] [1, 2, 3, 4, 0, 5] d_Tr_reckon_166 rfl (v4 + 1) rfl (by decide) rfl rfl rfl ?_
      refine sx_goto (tgt := 42) hX d_Tr_reckon_169 (by decide) ?_
      refine sx_sub [(0, .ref (K.2.2.1 32 0 0)), (1, .ref (K.2.2.1 16 v1n 0)), (2, .int v2), (3, .ref (K.2.2.1 8 v3n 0)), (4, .int (v4 + 1))] [0, 1, 2, 3, 4] rfl ?_
      exact hk42 v1n v2 v3n (v4 + 1) _ _ hv1n hv3n h
    · replace h := sx_f h hc1
      refine sx_aload_n (pc2 := 64) hX 3 d_Tr_reckon_63 rfl rfl rfl ?_
      refine fg_Tr_30 (pc2 := 67) hX (hK 8 v3n 0 hv3n (by decide)) d_Tr_reckon_64 rfl ?_
      refine sx_iload (pc2 := 69) hX 5 d_Tr_reckon_67 rfl rfl ?_
      obtain ⟨hc2, h⟩ := h
      refine sx_iald (pc2 := 70) hX (hK 9 v3n 0 hv3n (by decide)) rfl hc2 d_Tr_reckon_69 rfl ?_
      refine sx_istore (pc2 := 72) hX _ [(0, .ref (K.2.2.1 32 0 0)), (1, .ref (K.2.2.1 16 v1n 0)), (2, .int v2), (3, .ref (K.2.2.1 8 v3n 0)), (4, .int v4), (5, .int v5), (6, .int (σ 9 v3n 0 v5.toNatClampNeg))] [1, 2, 3, 4, 5, 6, 0] d_Tr_reckon_70 (by decide) rfl rfl rfl ?_
      refine sx_aload_n (pc2 := 73) hX 3 d_Tr_reckon_72 rfl rfl rfl ?_
      refine fg_Tr_33 (pc2 := 76) hX (hK 8 v3n 0 hv3n (by decide)) d_Tr_reckon_73 rfl ?_
      refine sx_iload (pc2 := 78) hX 5 d_Tr_reckon_76 rfl rfl ?_
      obtain ⟨hc3, h⟩ := h
      refine sx_iald (pc2 := 79) hX (hK 10 v3n 0 hv3n (by decide)) rfl hc3 d_Tr_reckon_78 rfl ?_
      refine sx_istore (pc2 := 81) hX _ [(0, .ref (K.2.2.1 32 0 0)), (1, .ref (K.2.2.1 16 v1n 0)), (2, .int v2), (3, .ref (K.2.2.1 8 v3n 0)), (4, .int v4), (5, .int v5), (6, .int (σ 9 v3n 0 v5.toNatClampNeg)), (7, .int (σ 10 v3n 0 v5.toNatClampNeg))] [1, 2, 3, 4, 5, 6, 7, 0] d_Tr_reckon_79 (by decide) rfl rfl rfl ?_
      refine sx_iload (pc2 := 83) hX 5 d_Tr_reckon_81 rfl rfl ?_
      refine sx_iload_n (pc2 := 84) hX 2 d_Tr_reckon_83 rfl rfl rfl ?_
      refine sx_icmp_eq (tgt := 160) (pc2 := 87) hX d_Tr_reckon_84 (by decide) rfl (fun hc4 => ?_) (fun hc4 => ?_)
      · replace h := sx_t h hc4
        refine sx_sub [(0, .ref (K.2.2.1 32 0 0)), (1, .ref (K.2.2.1 16 v1n 0)), (2, .int v2), (3, .ref (K.2.2.1 8 v3n 0)), (4, .int v4), (5, .int v5)] [0, 1, 2, 3, 4, 5] rfl ?_
        exact g_Tr_reckon_b160 hX hK hE  hk42 ih v1n v2 v3n v4 v5 _ _ hv1n hv3n h
      · replace h := sx_f h hc4
        refine sx_aload_n (pc2 := 88) hX 1 d_Tr_reckon_87 rfl rfl rfl ?_
        refine sx_iload (pc2 := 90) hX 6 d_Tr_reckon_88 rfl rfl ?_
        refine sx_iload (pc2 := 92) hX 7 d_Tr_reckon_90 rfl rfl ?_
        refine cl_Tr_36 (pc2 := 95) hX hK h hv1n ⟨Nat.le_of_ble_eq_true rfl, Nat.le_of_ble_eq_true rfl⟩ (Nat.le_of_ble_eq_true rfl) d_Tr_reckon_92 rfl (fun r5 σ5 τ5 h => ?_)
        refine sx_if_eq (tgt := 160) (pc2 := 98) hX d_Tr_reckon_95 (by decide) rfl (fun hc6 => ?_) (fun hc6 => ?_)
        · replace h := sx_t h hc6
          refine sx_sub [(0, .ref (K.2.2.1 32 0 0)), (1, .ref (K.2.2.1 16 v1n 0)), (2, .int v2), (3, .ref (K.2.2.1 8 v3n 0)), (4, .int v4), (5, .int v5)] [0, 1, 2, 3, 4, 5] rfl ?_
          exact g_Tr_reckon_b160 hX hK hE  hk42 ih v1n v2 v3n v4 v5 _ _ hv1n hv3n h
        · replace h := sx_f h hc6
          refine sx_aload_n (pc2 := 99) hX 1 d_Tr_reckon_98 rfl rfl rfl ?_
          refine sx_iload (pc2 := 101) hX 5 d_Tr_reckon_99 rfl rfl ?_
          refine cl_Tr_40 (pc2 := 104) hX hK h hv1n ⟨Nat.le_of_ble_eq_true rfl, Nat.le_of_ble_eq_true rfl⟩ (Nat.le_of_ble_eq_true rfl) d_Tr_reckon_101 rfl (fun r7 σ7 τ7 h => ?_)
          refine sx_istore (pc2 := 106) hX _ [(0, .ref (K.2.2.1 32 0 0)), (1, .ref (K.2.2.1 16 v1n 0)), (2, .int v2), (3, .ref (K.2.2.1 8 v3n 0)), (4, .int v4), (5, .int v5), (6, .int (σ 9 v3n 0 v5.toNatClampNeg)), (7, .int (σ 10 v3n 0 v5.toNatClampNeg)), (8, .int r7)] [1, 2, 3, 4, 5, 6, 7, 8, 0] d_Tr_reckon_104 (by decide) rfl rfl rfl ?_
          refine sx_aload_n (pc2 := 107) hX 0 d_Tr_reckon_106 rfl rfl rfl ?_
          refine fg_Tr_9 (pc2 := 110) hX (hK 32 0 0 (by decide) (by decide)) d_Tr_reckon_107 rfl ?_
          refine sx_iload (pc2 := 112) hX 6 d_Tr_reckon_110 rfl rfl ?_
          refine sx_aload_n (pc2 := 113) hX 0 d_Tr_reckon_112 rfl rfl rfl ?_
          refine fg_Tr_9 (pc2 := 116) hX (hK 32 0 0 (by decide) (by decide)) d_Tr_reckon_113 rfl ?_
          refine sx_iload (pc2 := 118) hX 6 d_Tr_reckon_116 rfl rfl ?_
          obtain ⟨hc8, h⟩ := h
          refine sx_iald (pc2 := 119) hX (hK 33 0 0 (by decide) (by decide)) rfl hc8 d_Tr_reckon_118 rfl ?_
          refine sx_aload_n (pc2 := 120) hX 0 d_Tr_reckon_119 rfl rfl rfl ?_
          refine fg_Tr_9 (pc2 := 123) hX (hK 32 0 0 (by decide) (by decide)) d_Tr_reckon_120 rfl ?_
          refine sx_iload (pc2 := 125) hX 7 d_Tr_reckon_123 rfl rfl ?_
          obtain ⟨hc9, h⟩ := h
          refine sx_iald (pc2 := 126) hX (hK 33 0 0 (by decide) (by decide)) rfl hc9 d_Tr_reckon_125 rfl ?_
          refine sx_iload (pc2 := 128) hX 8 d_Tr_reckon_126 rfl rfl ?_
          refine sx_iadd (pc2 := 129) hX d_Tr_reckon_128 rfl ?_
          refine sx_mmin (pc2 := 132) hX lk_16 kx_mmin.1 kx_mmin.2.1 kx_mmin.2.2 ⟨Nat.le_of_ble_eq_true rfl, Nat.le_of_ble_eq_true rfl⟩ d_Tr_reckon_129 rfl ?_
          obtain ⟨hc10, h⟩ := h
          refine sx_iast (pc2 := 133) hX (hK 33 0 0 (by decide) (by decide)) (fun _ => rfl) hc10 d_Tr_reckon_132 rfl ?_
          refine sx_nm (fun σ11 e11 => ?_)
          replace h := h σ11 e11
          refine sx_aload_n (pc2 := 134) hX 0 d_Tr_reckon_133 rfl rfl rfl ?_
          refine fg_Tr_9 (pc2 := 137) hX (hK 32 0 0 (by decide) (by decide)) d_Tr_reckon_134 rfl ?_
          refine sx_iload (pc2 := 139) hX 7 d_Tr_reckon_137 rfl rfl ?_
          refine sx_aload_n (pc2 := 140) hX 0 d_Tr_reckon_139 rfl rfl rfl ?_
          refine fg_Tr_9 (pc2 := 143) hX (hK 32 0 0 (by decide) (by decide)) d_Tr_reckon_140 rfl ?_
          refine sx_iload (pc2 := 145) hX 7 d_Tr_reckon_143 rfl rfl ?_
          obtain ⟨hc12, h⟩ := h
          refine sx_iald (pc2 := 146) hX (hK 33 0 0 (by decide) (by decide)) rfl hc12 d_Tr_reckon_145 rfl ?_
          refine sx_aload_n (pc2 := 147) hX 0 d_Tr_reckon_146 rfl rfl rfl ?_
          refine fg_Tr_9 (pc2 := 150) hX (hK 32 0 0 (by decide) (by decide)) d_Tr_reckon_147 rfl ?_
          refine sx_iload (pc2 := 152) hX 6 d_Tr_reckon_150 rfl rfl ?_
          obtain ⟨hc13, h⟩ := h
          refine sx_iald (pc2 := 153) hX (hK 33 0 0 (by decide) (by decide)) rfl hc13 d_Tr_reckon_152 rfl ?_
          refine sx_iload (pc2 := 155) hX 8 d_Tr_reckon_153 rfl rfl ?_
          refine sx_iadd (pc2 := 156) hX d_Tr_reckon_155 rfl ?_
          refine sx_mmin (pc2 := 159) hX lk_16 kx_mmin.1 kx_mmin.2.1 kx_mmin.2.2 ⟨Nat.le_of_ble_eq_true rfl, Nat.le_of_ble_eq_true rfl⟩ d_Tr_reckon_156 rfl ?_
          obtain ⟨hc14, h⟩ := h
          refine sx_iast (pc2 := 160) hX (hK 33 0 0 (by decide) (by decide)) (fun _ => rfl) hc14 d_Tr_reckon_159 rfl ?_
          refine sx_nm (fun σ15 e15 => ?_)
          replace h := h σ15 e15
          refine sx_sub [(0, .ref (K.2.2.1 32 0 0)), (1, .ref (K.2.2.1 16 v1n 0)), (2, .int v2), (3, .ref (K.2.2.1 8 v3n 0)), (4, .int v4), (5, .int v5)] [0, 1, 2, 3, 4, 5] rfl ?_
          exact g_Tr_reckon_b160 hX hK hE  hk42 ih v1n v2 v3n v4 v5 _ _ hv1n hv3n h
set_option maxRecDepth 100000 in
set_option maxHeartbeats 4000000 in
theorem g_Tr_reckon_b42 {l : Launch} {K : sx_K} {X : sx_T}   {Q : sx_M → Prop} (hX : sx_C X K prog_11_method_2_code 9 "SensorTree$Truth" none rm_Tr_reckon l) (hK : kx_C K) (hE : sx_E X K (sx_Qv K (fun σ _ => Q σ)))  : ∀ (f : Nat) (v1n : Nat) (v2 : Int32) (v3n : Nat) (v4 : Int32) (σ : sx_M) (τ : sx_L) (hv1n : v1n < 25) (hv3n : v3n < 2), wp_Tr_reckon_b42 Q f v1n v2 v3n v4 σ → sx_G X K 9 42 [(0, .ref (K.2.2.1 32 0 0)), (1, .ref (K.2.2.1 16 v1n 0)), (2, .int v2), (3, .ref (K.2.2.1 8 v3n 0)), (4, .int v4)] [] (sx_H K σ τ) := by
  intro f
  induction f with
  | zero => intro v1n v2 v3n v4 σ τ hv1n hv3n h; exact (show False from h).elim
  | succ f ih =>
    intro v1n v2 v3n v4 σ τ hv1n hv3n h
    rw [wp_Tr_reckon_b42] at h
    refine sx_iload (pc2 := 44) hX 4 d_Tr_reckon_42 rfl rfl ?_
    refine sx_aload_n (pc2 := 45) hX 3 d_Tr_reckon_44 rfl rfl rfl ?_
    refine fg_Tr_21 (pc2 := 48) hX (hK 8 v3n 0 hv3n (by decide)) d_Tr_reckon_45 rfl ?_
    refine sx_icmp_ge (tgt := 172) (pc2 := 51) hX d_Tr_reckon_48 (by decide) rfl (fun hc16 => ?_) (fun hc16 => ?_)
    · replace h := sx_t h hc16
      exact sx_vret hX hE h d_Tr_reckon_172
    · replace h := sx_f h hc16
      refine sx_iconst (v := 0) (pc2 := 52) hX d_Tr_reckon_51 (by decide) rfl ?_
      refine sx_istore (pc2 := 54) hX _ [(0, .ref (K.2.2.1 32 0 0)), (1, .ref (K.2.2.1 16 v1n 0)), (2, .int v2), (3, .ref (K.2.2.1 8 v3n 0)), (4, .int v4), (5, .int 0)] [1, 2, 3, 4, 5, 0] d_Tr_reckon_52 (by decide) rfl rfl rfl ?_
      obtain ⟨f54, h⟩ := h
      exact g_Tr_reckon_b54 hX hK hE  ih f54 v1n v2 v3n v4 0 _ _ hv1n hv3n h
set_option maxRecDepth 100000 in
set_option maxHeartbeats 4000000 in
theorem g_Tr_reckon_b8 {l : Launch} {K : sx_K} {X : sx_T}   {Q : sx_M → Prop} (hX : sx_C X K prog_11_method_2_code 9 "SensorTree$Truth" none rm_Tr_reckon l) (hK : kx_C K) (hE : sx_E X K (sx_Qv K (fun σ _ => Q σ)))  : ∀ (f : Nat) (v1n : Nat) (v2 : Int32) (v3n : Nat) (v4 : Int32) (σ : sx_M) (τ : sx_L) (hv1n : v1n < 25) (hv3n : v3n < 2), wp_Tr_reckon_b8 Q f v1n v2 v3n v4 σ → sx_G X K 9 8 [(0, .ref (K.2.2.1 32 0 0)), (1, .ref (K.2.2.1 16 v1n 0)), (2, .int v2), (3, .ref (K.2.2.1 8 v3n 0)), (4, .int v4)] [] (sx_H K σ τ) := by
  intro f
  induction f with
  | zero => intro v1n v2 v3n v4 σ τ hv1n hv3n h; exact (show False from h).elim
  | succ f ih =>
    intro v1n v2 v3n v4 σ τ hv1n hv3n h
    rw [wp_Tr_reckon_b8] at h
    refine sx_iload (pc2 := 10) hX 4 d_Tr_reckon_8 rfl rfl ?_
    refine sx_bipush (v := 7) (pc2 := 12) hX d_Tr_reckon_10 (by decide) rfl ?_
    refine sx_icmp_ge (tgt := 31) (pc2 := 15) hX d_Tr_reckon_12 (by decide) rfl (fun hc17 => ?_) (fun hc17 => ?_)
    · replace h := sx_t h hc17
      refine sx_aload_n (pc2 := 32) hX 0 d_Tr_reckon_31 rfl rfl rfl ?_
      refine fg_Tr_9 (pc2 := 35) hX (hK 32 0 0 (by decide) (by decide)) d_Tr_reckon_32 rfl ?_
      refine sx_iconst (v := 0) (pc2 := 36) hX d_Tr_reckon_35 (by decide) rfl ?_
      refine sx_bipush (v := 10) (pc2 := 38) hX d_Tr_reckon_36 (by decide) rfl ?_
      obtain ⟨hc18, h⟩ := h
      refine sx_iast (pc2 := 39) hX (hK 33 0 0 (by decide) (by decide)) (fun _ => rfl) hc18 d_Tr_reckon_38 rfl ?_
      refine sx_nm (fun σ19 e19 => ?_)
      replace h := h σ19 e19
      refine sx_iconst (v := 1) (pc2 := 40) hX d_Tr_reckon_39 (by decide) rfl ?_
      refine sx_istore (pc2 := 42) hX _ [(0, .ref (K.2.2.1 32 0 0)), (1, .ref (K.2.2.1 16 v1n 0)), (2, .int v2), (3, .ref (K.2.2.1 8 v3n 0)), (4, .int 1)] [1, 2, 3, 4, 0] d_Tr_reckon_40 (by decide) rfl rfl rfl ?_
      obtain ⟨f42, h⟩ := h
      exact g_Tr_reckon_b42 hX hK hE   f42 v1n v2 v3n 1 _ _ hv1n hv3n h
    · replace h := sx_f h hc17
      refine sx_aload_n (pc2 := 16) hX 0 d_Tr_reckon_15 rfl rfl rfl ?_
      refine fg_Tr_9 (pc2 := 19) hX (hK 32 0 0 (by decide) (by decide)) d_Tr_reckon_16 rfl ?_
      refine sx_iload (pc2 := 21) hX 4 d_Tr_reckon_19 rfl rfl ?_
      refine sx_sipush (v := 9999) (pc2 := 24) hX d_Tr_reckon_21 (by decide) rfl ?_
      obtain ⟨hc20, h⟩ := h
      refine sx_iast (pc2 := 25) hX (hK 33 0 0 (by decide) (by decide)) (fun _ => rfl) hc20 d_Tr_reckon_24 rfl ?_
      refine sx_nm (fun σ21 e21 => ?_)
      replace h := h σ21 e21
      refine sx_iinc (pc2 := 28) hX 4 _ [(0, .ref (K.2.2.1 32 0 0)), (1, .ref (K.2.2.1 16 v1n 0)), (2, .int v2), (3, .ref (K.2.2.1 8 v3n 0)), (4, .int (v4 + 1))] [1, 2, 3, 4, 0] d_Tr_reckon_25 rfl (v4 + 1) rfl (by decide) rfl rfl rfl ?_
      refine sx_goto (tgt := 8) hX d_Tr_reckon_28 (by decide) ?_
      exact ih v1n v2 v3n (v4 + 1) _ _ hv1n hv3n h
set_option maxRecDepth 100000 in
set_option maxHeartbeats 4000000 in
theorem c_Tr_reckon {l : Launch} {K : sx_K} (hK : kx_C K) (n1 : Nat) (x2 : Int32) (σ : sx_M) (τ : sx_L) (Q : sx_M → Prop) (hn1 : n1 < 25) (h : wp_Tr_reckon n1 x2 σ Q) : Met l y_Tr_reckon (sx_wd y_Tr_reckon prog_11_method_2_code 9 none) rm_Tr_reckon (sx_Pc K [.ref (K.2.2.1 32 0 0), .ref (K.2.2.1 16 n1 0), .int x2] σ τ) (sx_Qv K (fun σ _ => Q σ)) 0 0 (sx_A K) := by
  refine sx_met (by decide) (Nat.le_of_ble_eq_true rfl) (fun X hX hE => ?_)
  replace hX : sx_C X K prog_11_method_2_code 9 "SensorTree$Truth" none rm_Tr_reckon l := hX
  show sx_G X K 9 0 [(0, .ref (K.2.2.1 32 0 0)), (1, .ref (K.2.2.1 16 n1 0)), (2, .int x2)] [] (sx_H K σ τ)
  unfold wp_Tr_reckon at h
  refine sx_aload_n (pc2 := 1) hX 1 d_Tr_reckon_0 rfl rfl rfl ?_
  refine fg_Tr_15 (pc2 := 4) hX (hK 16 n1 0 hn1 (by decide)) d_Tr_reckon_1 rfl ?_
  refine sx_astore_n (pc2 := 5) hX _ [(0, .ref (K.2.2.1 32 0 0)), (1, .ref (K.2.2.1 16 n1 0)), (2, .int x2), (3, .ref (K.2.2.1 8 0 0))] [1, 2, 3, 0] d_Tr_reckon_4 rfl (by decide) rfl rfl rfl ?_
  refine sx_iconst (v := 0) (pc2 := 6) hX d_Tr_reckon_5 (by decide) rfl ?_
  refine sx_istore (pc2 := 8) hX _ [(0, .ref (K.2.2.1 32 0 0)), (1, .ref (K.2.2.1 16 n1 0)), (2, .int x2), (3, .ref (K.2.2.1 8 0 0)), (4, .int 0)] [1, 2, 3, 4, 0] d_Tr_reckon_6 (by decide) rfl rfl rfl ?_
  obtain ⟨f8, h⟩ := h
  exact g_Tr_reckon_b8 hX hK hE   f8 n1 x2 0 0 _ _ hn1 (by decide) h
theorem cl_St_221 {X : sx_T} {K : sx_K} {cc : ByteArray} {nL : Nat} {ret : Option FieldType} {rm : Room} {l : Launch} {pc pc2 : Nat} {lv : List (Nat × Value)} {st : List Value} {σ : sx_M} {τ : sx_L} {n1 : Nat} {x2 : Int32} {Q : sx_M → Prop} (hX : sx_C X K cc nL "SensorTree" ret rm l) (hK : kx_C K) (h : wp_Tr_reckon n1 x2 σ Q) (hn1 : n1 < 25) (hR : rm_Tr_reckon.frames + 1 ≤ rm.frames ∧ 8 + (9 + 11) + rm_Tr_reckon.locals ≤ rm.locals) (hst : (st.map fun v => v.category).sum ≤ 8) (hd : decode cc pc = .ok (.invokevirtual 221, 3)) (hpc : pc + 3 = pc2) (kk : ∀ (σ2 : sx_M) (τ2 : sx_L), Q σ2 → sx_G X K nL pc2 lv (st) (sx_H K σ2 τ2)) : sx_G X K nL pc lv (.int x2 :: .ref (K.2.2.1 16 n1 0) :: .ref (K.2.2.1 32 0 0) :: st) (sx_H K σ τ) :=
  sx_callVv (Q := fun σ _ => Q σ) (As := [.ref (K.2.2.1 16 n1 0), .int x2]) hX (c_Tr_reckon hK n1 x2 σ τ Q hn1 h) (hK 32 0 0 (by decide) (by decide)) rfl rfl lk_314 lk_315 hy_Tr_reckon lk_312 lk_240 lk_313 ⟨rfl, rfl⟩ hR hst rfl hd hpc kk
def y_Tr_postsReached : MethodName := ⟨"SensorTree$Truth", "postsReached", "(LSensorTree$Net;)I"⟩
theorem hy_Tr_postsReached : y_Tr_postsReached.cls ≠ "java/lang/invoke/MethodHandle" ∧ y_Tr_postsReached.cls ≠ "java/lang/invoke/VarHandle" ∧ (parseMethodDescriptor y_Tr_postsReached.desc).map (fun d => d.parameters.length) = some 1 := by decide +kernel
theorem d_Tr_postsReached_0 : decode prog_11_method_3_code 0 = .ok (.iconst 0, 1) := by decide +kernel
theorem d_Tr_postsReached_1 : decode prog_11_method_3_code 1 = .ok (.istore_n 2, 1) := by decide +kernel
theorem d_Tr_postsReached_2 : decode prog_11_method_3_code 2 = .ok (.iconst 0, 1) := by decide +kernel
theorem d_Tr_postsReached_3 : decode prog_11_method_3_code 3 = .ok (.istore_n 3, 1) := by decide +kernel
theorem d_Tr_postsReached_4 : decode prog_11_method_3_code 4 = .ok (.iload_n 3, 1) := by decide +kernel
theorem d_Tr_postsReached_5 : decode prog_11_method_3_code 5 = .ok (.aload_n 1, 1) := by decide +kernel
theorem d_Tr_postsReached_6 : decode prog_11_method_3_code 6 = .ok (.getfield 15, 3) := by decide +kernel
theorem d_Tr_postsReached_9 : decode prog_11_method_3_code 9 = .ok (.getfield 21, 3) := by decide +kernel
theorem d_Tr_postsReached_12 : decode prog_11_method_3_code 12 = .ok (.if_icmp .ge 41, 3) := by decide +kernel
theorem d_Tr_postsReached_15 : decode prog_11_method_3_code 15 = .ok (.iload_n 2, 1) := by decide +kernel
theorem d_Tr_postsReached_16 : decode prog_11_method_3_code 16 = .ok (.aload_n 1, 1) := by decide +kernel
theorem d_Tr_postsReached_17 : decode prog_11_method_3_code 17 = .ok (.getfield 50, 3) := by decide +kernel
theorem d_Tr_postsReached_20 : decode prog_11_method_3_code 20 = .ok (.iload_n 3, 1) := by decide +kernel
theorem d_Tr_postsReached_21 : decode prog_11_method_3_code 21 = .ok (.aaload, 1) := by decide +kernel
theorem d_Tr_postsReached_22 : decode prog_11_method_3_code 22 = .ok (.getfield 53, 3) := by decide +kernel
theorem d_Tr_postsReached_25 : decode prog_11_method_3_code 25 = .ok (.ifCond .eq 19, 3) := by decide +kernel
theorem d_Tr_postsReached_28 : decode prog_11_method_3_code 28 = .ok (.aload_n 0, 1) := by decide +kernel
theorem d_Tr_postsReached_29 : decode prog_11_method_3_code 29 = .ok (.getfield 9, 3) := by decide +kernel
theorem d_Tr_postsReached_32 : decode prog_11_method_3_code 32 = .ok (.iload_n 3, 1) := by decide +kernel
theorem d_Tr_postsReached_33 : decode prog_11_method_3_code 33 = .ok (.iaload, 1) := by decide +kernel
theorem d_Tr_postsReached_34 : decode prog_11_method_3_code 34 = .ok (.sipush 9999, 3) := by decide +kernel
theorem d_Tr_postsReached_37 : decode prog_11_method_3_code 37 = .ok (.if_icmp .ge 7, 3) := by decide +kernel
theorem d_Tr_postsReached_40 : decode prog_11_method_3_code 40 = .ok (.iconst 1, 1) := by decide +kernel
theorem d_Tr_postsReached_41 : decode prog_11_method_3_code 41 = .ok (.goto 4, 3) := by decide +kernel
theorem d_Tr_postsReached_44 : decode prog_11_method_3_code 44 = .ok (.iconst 0, 1) := by decide +kernel
theorem d_Tr_postsReached_45 : decode prog_11_method_3_code 45 = .ok (.iadd, 1) := by decide +kernel
theorem d_Tr_postsReached_46 : decode prog_11_method_3_code 46 = .ok (.istore_n 2, 1) := by decide +kernel
theorem d_Tr_postsReached_47 : decode prog_11_method_3_code 47 = .ok (.iinc 3 1, 3) := by decide +kernel
theorem d_Tr_postsReached_50 : decode prog_11_method_3_code 50 = .ok (.goto (-46), 3) := by decide +kernel
theorem d_Tr_postsReached_53 : decode prog_11_method_3_code 53 = .ok (.iload_n 2, 1) := by decide +kernel
theorem d_Tr_postsReached_54 : decode prog_11_method_3_code 54 = .ok (.ireturn, 1) := by decide +kernel
def wp_Tr_postsReached_b45  (k4 : Nat → Int32 → Int32 → sx_M → Prop) (Q : Int32 → sx_M → Prop) (v1n : Nat) (v3 : Int32) (w0 : Int32) (w1 : Int32) (σ : sx_M) : Prop := k4 v1n (w0 + w1) (v3 + 1) σ
def wp_Tr_postsReached_b44  (k4 : Nat → Int32 → Int32 → sx_M → Prop) (Q : Int32 → sx_M → Prop) (v1n : Nat) (v3 : Int32) (w0 : Int32) (σ : sx_M) : Prop := wp_Tr_postsReached_b45 k4 Q v1n v3 w0 0 σ
def wp_Tr_postsReached_b4   (Q : Int32 → sx_M → Prop) : Nat → Nat → Int32 → Int32 → sx_M → Prop
  | 0, _, _, _, _ => False
  | f + 1, v1n, v2, v3, σ => if σ 8 0 0 0 ≤ v3 then (Q v2 σ) else (vp_in v3 7 ∧ (if σ 27 v1n v3.toNatClampNeg 0 = 0 then (wp_Tr_postsReached_b44 (wp_Tr_postsReached_b4 Q f) Q v1n v3 v2 σ) else (vp_in v3 7 ∧ (if 9999 ≤ σ 33 0 0 v3.toNatClampNeg then (wp_Tr_postsReached_b44 (wp_Tr_postsReached_b4 Q f) Q v1n v3 v2 σ) else (wp_Tr_postsReached_b45 (wp_Tr_postsReached_b4 Q f) Q v1n v3 v2 1 σ)))))
def wp_Tr_postsReached (n1 : Nat) (σ : sx_M) (Q : Int32 → sx_M → Prop) : Prop := ∃ f4, wp_Tr_postsReached_b4 Q f4 n1 0 0 σ
abbrev rm_Tr_postsReached : Room := { frames := 0, cells := 0, slots := 0, locals := 0 }
set_option maxRecDepth 100000 in
set_option maxHeartbeats 4000000 in
theorem g_Tr_postsReached_b45 {l : Launch} {K : sx_K} {X : sx_T}  {k4 : Nat → Int32 → Int32 → sx_M → Prop} {Q : Int32 → sx_M → Prop} (hX : sx_C X K prog_11_method_3_code 4 "SensorTree$Truth" (some .int) rm_Tr_postsReached l) (hK : kx_C K) (hE : sx_E X K (sx_Qi K (fun r σ _ => Q r σ)))  (hk4 : ∀ (v1n : Nat) (v2 : Int32) (v3 : Int32) (σ : sx_M) (τ : sx_L) (hv1n : v1n < 25), k4 v1n v2 v3 σ → sx_G X K 4 4 [(0, .ref (K.2.2.1 32 0 0)), (1, .ref (K.2.2.1 16 v1n 0)), (2, .int v2), (3, .int v3)] [] (sx_H K σ τ)) (v1n : Nat) (v3 : Int32) (w0 : Int32) (w1 : Int32) (σ : sx_M) (τ : sx_L) (hv1n : v1n < 25) (h : wp_Tr_postsReached_b45 k4 Q  v1n v3 w0 w1 σ) : sx_G X K 4 45 [(0, .ref (K.2.2.1 32 0 0)), (1, .ref (K.2.2.1 16 v1n 0)), (3, .int v3)] [.int w1, .int w0] (sx_H K σ τ) := by
  unfold wp_Tr_postsReached_b45 at h
  refine sx_iadd (pc2 := 46) hX d_Tr_postsReached_45 rfl ?_
  refine sx_istore_n (pc2 := 47) hX _ [(0, .ref (K.2.2.1 32 0 0)), (1, .ref (K.2.2.1 16 v1n 0)), (2, .int (w0 + w1)), (3, .int v3)] [1, 2, 0, 3] d_Tr_postsReached_46 rfl (by decide) rfl rfl rfl ?_
  refine sx_iinc (pc2 := 50) hX 3 _ [(0, .ref (K.2.2.1 32 0 0)), (1, .ref (K.2.2.1 16 v1n 0)), (2, .int (w0 + w1)), (3, .int (v3 + 1))] [1, 2, 3, 0] d_Tr_postsReached_47 rfl (v3 + 1) rfl (by decide) rfl rfl rfl ?_
  refine sx_goto (tgt := 4) hX d_Tr_postsReached_50 (by decide) ?_
  exact hk4 v1n (w0 + w1) (v3 + 1) _ _ hv1n h
set_option maxRecDepth 100000 in
set_option maxHeartbeats 4000000 in
theorem g_Tr_postsReached_b44 {l : Launch} {K : sx_K} {X : sx_T}  {k4 : Nat → Int32 → Int32 → sx_M → Prop} {Q : Int32 → sx_M → Prop} (hX : sx_C X K prog_11_method_3_code 4 "SensorTree$Truth" (some .int) rm_Tr_postsReached l) (hK : kx_C K) (hE : sx_E X K (sx_Qi K (fun r σ _ => Q r σ)))  (hk4 : ∀ (v1n : Nat) (v2 : Int32) (v3 : Int32) (σ : sx_M) (τ : sx_L) (hv1n : v1n < 25), k4 v1n v2 v3 σ → sx_G X K 4 4 [(0, .ref (K.2.2.1 32 0 0)), (1, .ref (K.2.2.1 16 v1n 0)), (2, .int v2), (3, .int v3)] [] (sx_H K σ τ)) (v1n : Nat) (v3 : Int32) (w0 : Int32) (σ : sx_M) (τ : sx_L) (hv1n : v1n < 25) (h : wp_Tr_postsReached_b44 k4 Q  v1n v3 w0 σ) : sx_G X K 4 44 [(0, .ref (K.2.2.1 32 0 0)), (1, .ref (K.2.2.1 16 v1n 0)), (3, .int v3)] [.int w0] (sx_H K σ τ) := by
  unfold wp_Tr_postsReached_b44 at h
  refine sx_iconst (v := 0) (pc2 := 45) hX d_Tr_postsReached_44 (by decide) rfl ?_
  exact g_Tr_postsReached_b45 hX hK hE  hk4 v1n v3 w0 0 _ _ hv1n h
set_option maxRecDepth 100000 in
set_option maxHeartbeats 4000000 in
theorem g_Tr_postsReached_b4 {l : Launch} {K : sx_K} {X : sx_T}   {Q : Int32 → sx_M → Prop} (hX : sx_C X K prog_11_method_3_code 4 "SensorTree$Truth" (some .int) rm_Tr_postsReached l) (hK : kx_C K) (hE : sx_E X K (sx_Qi K (fun r σ _ => Q r σ)))  : ∀ (f : Nat) (v1n : Nat) (v2 : Int32) (v3 : Int32) (σ : sx_M) (τ : sx_L) (hv1n : v1n < 25), wp_Tr_postsReached_b4 Q f v1n v2 v3 σ → sx_G X K 4 4 [(0, .ref (K.2.2.1 32 0 0)), (1, .ref (K.2.2.1 16 v1n 0)), (2, .int v2), (3, .int v3)] [] (sx_H K σ τ) := by
  intro f
  induction f with
  | zero => intro v1n v2 v3 σ τ hv1n h; exact (show False from h).elim
  | succ f ih =>
    intro v1n v2 v3 σ τ hv1n h
    rw [wp_Tr_postsReached_b4] at h
    refine sx_iload_n (pc2 := 5) hX 3 d_Tr_postsReached_4 rfl rfl rfl ?_
    refine sx_aload_n (pc2 := 6) hX 1 d_Tr_postsReached_5 rfl rfl rfl ?_
    refine fg_Tr_15 (pc2 := 9) hX (hK 16 v1n 0 hv1n (by decide)) d_Tr_postsReached_6 rfl ?_
    refine fg_Tr_21 (pc2 := 12) hX (hK 8 0 0 (by decide) (by decide)) d_Tr_postsReached_9 rfl ?_
    refine sx_icmp_ge (tgt := 53) (pc2 := 15) hX d_Tr_postsReached_12 (by decide) rfl (fun hc1 => ?_) (fun hc1 => ?_)
    · replace h := sx_t h hc1
      refine sx_iload_n (pc2 := 54) hX 2 d_Tr_postsReached_53 rfl rfl rfl ?_
      exact sx_iret hX hE h d_Tr_postsReached_54
    · replace h := sx_f h hc1
      refine sx_iload_n (pc2 := 16) hX 2 d_Tr_postsReached_15 rfl rfl rfl ?_
      refine sx_aload_n (pc2 := 17) hX 1 d_Tr_postsReached_16 rfl rfl rfl ?_
      refine fg_Tr_50 (pc2 := 20) hX (hK 16 v1n 0 hv1n (by decide)) d_Tr_postsReached_17 rfl ?_
      refine sx_iload_n (pc2 := 21) hX 3 d_Tr_postsReached_20 rfl rfl rfl ?_
      obtain ⟨hc2, h⟩ := h
      refine sx_aald (a := K.2.2.1 27 v1n v3.toNatClampNeg) (pc2 := 22) hX (hK 17 v1n 0 hv1n (by decide)) 4 rfl rfl rfl hc2 d_Tr_postsReached_21 rfl ?_
      refine fg_Tr_53 (pc2 := 25) hX (hK 27 v1n v3.toNatClampNeg hv1n (sx_lt hc2)) d_Tr_postsReached_22 rfl ?_
      refine sx_if_eq (tgt := 44) (pc2 := 28) hX d_Tr_postsReached_25 (by decide) rfl (fun hc3 => ?_) (fun hc3 => ?_)
      · replace h := sx_t h hc3
        refine sx_sub [(0, .ref (K.2.2.1 32 0 0)), (1, .ref (K.2.2.1 16 v1n 0)), (3, .int v3)] [0, 1, 3] rfl ?_
        exact g_Tr_postsReached_b44 hX hK hE  ih v1n v3 v2 _ _ hv1n h
      · replace h := sx_f h hc3
        refine sx_aload_n (pc2 := 29) hX 0 d_Tr_postsReached_28 rfl rfl rfl ?_
        refine fg_Tr_9 (pc2 := 32) hX (hK 32 0 0 (by decide) (by decide)) d_Tr_postsReached_29 rfl ?_
        refine sx_iload_n (pc2 := 33) hX 3 d_Tr_postsReached_32 rfl rfl rfl ?_
        obtain ⟨hc4, h⟩ := h
        refine sx_iald (pc2 := 34) hX (hK 33 0 0 (by decide) (by decide)) rfl hc4 d_Tr_postsReached_33 rfl ?_
        refine sx_sipush (v := 9999) (pc2 := 37) hX d_Tr_postsReached_34 (by decide) rfl ?_
        refine sx_icmp_ge (tgt := 44) (pc2 := 40) hX d_Tr_postsReached_37 (by decide) rfl (fun hc5 => ?_) (fun hc5 => ?_)
        · replace h := sx_t h hc5
          refine sx_sub [(0, .ref (K.2.2.1 32 0 0)), (1, .ref (K.2.2.1 16 v1n 0)), (3, .int v3)] [0, 1, 3] rfl ?_
          exact g_Tr_postsReached_b44 hX hK hE  ih v1n v3 v2 _ _ hv1n h
        · replace h := sx_f h hc5
          refine sx_iconst (v := 1) (pc2 := 41) hX d_Tr_postsReached_40 (by decide) rfl ?_
          refine sx_goto (tgt := 45) hX d_Tr_postsReached_41 (by decide) ?_
          refine sx_sub [(0, .ref (K.2.2.1 32 0 0)), (1, .ref (K.2.2.1 16 v1n 0)), (3, .int v3)] [0, 1, 3] rfl ?_
          exact g_Tr_postsReached_b45 hX hK hE  ih v1n v3 v2 1 _ _ hv1n h
set_option maxRecDepth 100000 in
set_option maxHeartbeats 4000000 in
theorem c_Tr_postsReached {l : Launch} {K : sx_K} (hK : kx_C K) (n1 : Nat) (σ : sx_M) (τ : sx_L) (Q : Int32 → sx_M → Prop) (hn1 : n1 < 25) (h : wp_Tr_postsReached n1 σ Q) : Met l y_Tr_postsReached (sx_wd y_Tr_postsReached prog_11_method_3_code 4 (some .int)) rm_Tr_postsReached (sx_Pc K [.ref (K.2.2.1 32 0 0), .ref (K.2.2.1 16 n1 0)] σ τ) (sx_Qi K (fun r σ _ => Q r σ)) 0 0 (sx_A K) := by
  refine sx_met (by decide) (Nat.le_of_ble_eq_true rfl) (fun X hX hE => ?_)
  replace hX : sx_C X K prog_11_method_3_code 4 "SensorTree$Truth" (some .int) rm_Tr_postsReached l := hX
  show sx_G X K 4 0 [(0, .ref (K.2.2.1 32 0 0)), (1, .ref (K.2.2.1 16 n1 0))] [] (sx_H K σ τ)
  unfold wp_Tr_postsReached at h
  refine sx_iconst (v := 0) (pc2 := 1) hX d_Tr_postsReached_0 (by decide) rfl ?_
  refine sx_istore_n (pc2 := 2) hX _ [(0, .ref (K.2.2.1 32 0 0)), (1, .ref (K.2.2.1 16 n1 0)), (2, .int 0)] [1, 2, 0] d_Tr_postsReached_1 rfl (by decide) rfl rfl rfl ?_
  refine sx_iconst (v := 0) (pc2 := 3) hX d_Tr_postsReached_2 (by decide) rfl ?_
  refine sx_istore_n (pc2 := 4) hX _ [(0, .ref (K.2.2.1 32 0 0)), (1, .ref (K.2.2.1 16 n1 0)), (2, .int 0), (3, .int 0)] [1, 2, 3, 0] d_Tr_postsReached_3 rfl (by decide) rfl rfl rfl ?_
  obtain ⟨f4, h⟩ := h
  exact g_Tr_postsReached_b4 hX hK hE   f4 n1 0 0 _ _ hn1 h
theorem cl_St_251 {X : sx_T} {K : sx_K} {cc : ByteArray} {nL : Nat} {ret : Option FieldType} {rm : Room} {l : Launch} {pc pc2 : Nat} {lv : List (Nat × Value)} {st : List Value} {σ : sx_M} {τ : sx_L} {n1 : Nat} {Q : Int32 → sx_M → Prop} (hX : sx_C X K cc nL "SensorTree" ret rm l) (hK : kx_C K) (h : wp_Tr_postsReached n1 σ Q) (hn1 : n1 < 25) (hR : rm_Tr_postsReached.frames + 1 ≤ rm.frames ∧ 8 + (4 + 11) + rm_Tr_postsReached.locals ≤ rm.locals) (hst : (st.map fun v => v.category).sum ≤ 8) (hd : decode cc pc = .ok (.invokevirtual 251, 3)) (hpc : pc + 3 = pc2) (kk : ∀ (r : Int32) (σ2 : sx_M) (τ2 : sx_L), Q r σ2 → sx_G X K nL pc2 lv (.int r :: st) (sx_H K σ2 τ2)) : sx_G X K nL pc lv (.ref (K.2.2.1 16 n1 0) :: .ref (K.2.2.1 32 0 0) :: st) (sx_H K σ τ) :=
  sx_callVi (Q := fun r σ _ => Q r σ) (As := [.ref (K.2.2.1 16 n1 0)]) hX (c_Tr_postsReached hK n1 σ τ Q hn1 h) (hK 32 0 0 (by decide) (by decide)) rfl rfl lk_330 lk_331 hy_Tr_postsReached lk_328 lk_240 lk_329 ⟨rfl, rfl⟩ hR hst rfl hd hpc kk
def y_Tr_sumBeyond : MethodName := ⟨"SensorTree$Truth", "sumBeyond", "(LSensorTree$Net;)I"⟩
theorem hy_Tr_sumBeyond : y_Tr_sumBeyond.cls ≠ "java/lang/invoke/MethodHandle" ∧ y_Tr_sumBeyond.cls ≠ "java/lang/invoke/VarHandle" ∧ (parseMethodDescriptor y_Tr_sumBeyond.desc).map (fun d => d.parameters.length) = some 1 := by decide +kernel
theorem d_Tr_sumBeyond_0 : decode prog_11_method_4_code 0 = .ok (.iconst 0, 1) := by decide +kernel
theorem d_Tr_sumBeyond_1 : decode prog_11_method_4_code 1 = .ok (.istore_n 2, 1) := by decide +kernel
theorem d_Tr_sumBeyond_2 : decode prog_11_method_4_code 2 = .ok (.iconst 0, 1) := by decide +kernel
theorem d_Tr_sumBeyond_3 : decode prog_11_method_4_code 3 = .ok (.istore_n 3, 1) := by decide +kernel
theorem d_Tr_sumBeyond_4 : decode prog_11_method_4_code 4 = .ok (.iload_n 3, 1) := by decide +kernel
theorem d_Tr_sumBeyond_5 : decode prog_11_method_4_code 5 = .ok (.aload_n 1, 1) := by decide +kernel
theorem d_Tr_sumBeyond_6 : decode prog_11_method_4_code 6 = .ok (.getfield 15, 3) := by decide +kernel
theorem d_Tr_sumBeyond_9 : decode prog_11_method_4_code 9 = .ok (.getfield 21, 3) := by decide +kernel
theorem d_Tr_sumBeyond_12 : decode prog_11_method_4_code 12 = .ok (.if_icmp .ge 63, 3) := by decide +kernel
theorem d_Tr_sumBeyond_15 : decode prog_11_method_4_code 15 = .ok (.aload_n 1, 1) := by decide +kernel
theorem d_Tr_sumBeyond_16 : decode prog_11_method_4_code 16 = .ok (.getfield 50, 3) := by decide +kernel
theorem d_Tr_sumBeyond_19 : decode prog_11_method_4_code 19 = .ok (.iload_n 3, 1) := by decide +kernel
theorem d_Tr_sumBeyond_20 : decode prog_11_method_4_code 20 = .ok (.aaload, 1) := by decide +kernel
theorem d_Tr_sumBeyond_21 : decode prog_11_method_4_code 21 = .ok (.astore 4, 2) := by decide +kernel
theorem d_Tr_sumBeyond_23 : decode prog_11_method_4_code 23 = .ok (.aload 4, 2) := by decide +kernel
theorem d_Tr_sumBeyond_25 : decode prog_11_method_4_code 25 = .ok (.getfield 53, 3) := by decide +kernel
theorem d_Tr_sumBeyond_28 : decode prog_11_method_4_code 28 = .ok (.ifCond .eq 41, 3) := by decide +kernel
theorem d_Tr_sumBeyond_31 : decode prog_11_method_4_code 31 = .ok (.aload 4, 2) := by decide +kernel
theorem d_Tr_sumBeyond_33 : decode prog_11_method_4_code 33 = .ok (.getfield 59, 3) := by decide +kernel
theorem d_Tr_sumBeyond_36 : decode prog_11_method_4_code 36 = .ok (.sipush 9999, 3) := by decide +kernel
theorem d_Tr_sumBeyond_39 : decode prog_11_method_4_code 39 = .ok (.if_icmp .ge 30, 3) := by decide +kernel
theorem d_Tr_sumBeyond_42 : decode prog_11_method_4_code 42 = .ok (.aload_n 0, 1) := by decide +kernel
theorem d_Tr_sumBeyond_43 : decode prog_11_method_4_code 43 = .ok (.getfield 9, 3) := by decide +kernel
theorem d_Tr_sumBeyond_46 : decode prog_11_method_4_code 46 = .ok (.iload_n 3, 1) := by decide +kernel
theorem d_Tr_sumBeyond_47 : decode prog_11_method_4_code 47 = .ok (.iaload, 1) := by decide +kernel
theorem d_Tr_sumBeyond_48 : decode prog_11_method_4_code 48 = .ok (.sipush 9999, 3) := by decide +kernel
theorem d_Tr_sumBeyond_51 : decode prog_11_method_4_code 51 = .ok (.if_icmp .ge 18, 3) := by decide +kernel
theorem d_Tr_sumBeyond_54 : decode prog_11_method_4_code 54 = .ok (.iload_n 2, 1) := by decide +kernel
theorem d_Tr_sumBeyond_55 : decode prog_11_method_4_code 55 = .ok (.aload 4, 2) := by decide +kernel
theorem d_Tr_sumBeyond_57 : decode prog_11_method_4_code 57 = .ok (.getfield 59, 3) := by decide +kernel
theorem d_Tr_sumBeyond_60 : decode prog_11_method_4_code 60 = .ok (.aload_n 0, 1) := by decide +kernel
theorem d_Tr_sumBeyond_61 : decode prog_11_method_4_code 61 = .ok (.getfield 9, 3) := by decide +kernel
theorem d_Tr_sumBeyond_64 : decode prog_11_method_4_code 64 = .ok (.iload_n 3, 1) := by decide +kernel
theorem d_Tr_sumBeyond_65 : decode prog_11_method_4_code 65 = .ok (.iaload, 1) := by decide +kernel
theorem d_Tr_sumBeyond_66 : decode prog_11_method_4_code 66 = .ok (.isub, 1) := by decide +kernel
theorem d_Tr_sumBeyond_67 : decode prog_11_method_4_code 67 = .ok (.iadd, 1) := by decide +kernel
theorem d_Tr_sumBeyond_68 : decode prog_11_method_4_code 68 = .ok (.istore_n 2, 1) := by decide +kernel
theorem d_Tr_sumBeyond_69 : decode prog_11_method_4_code 69 = .ok (.iinc 3 1, 3) := by decide +kernel
theorem d_Tr_sumBeyond_72 : decode prog_11_method_4_code 72 = .ok (.goto (-68), 3) := by decide +kernel
theorem d_Tr_sumBeyond_75 : decode prog_11_method_4_code 75 = .ok (.iload_n 2, 1) := by decide +kernel
theorem d_Tr_sumBeyond_76 : decode prog_11_method_4_code 76 = .ok (.ireturn, 1) := by decide +kernel
def wp_Tr_sumBeyond_b69  (k4 : Nat → Int32 → Int32 → sx_M → Prop) (Q : Int32 → sx_M → Prop) (v1n : Nat) (v2 : Int32) (v3 : Int32) (σ : sx_M) : Prop := k4 v1n v2 (v3 + 1) σ
def wp_Tr_sumBeyond_b4   (Q : Int32 → sx_M → Prop) : Nat → Nat → Int32 → Int32 → sx_M → Prop
  | 0, _, _, _, _ => False
  | f + 1, v1n, v2, v3, σ => if σ 8 0 0 0 ≤ v3 then (Q v2 σ) else (vp_in v3 7 ∧ (if σ 27 v1n v3.toNatClampNeg 0 = 0 then (wp_Tr_sumBeyond_b69 (wp_Tr_sumBeyond_b4 Q f) Q v1n v2 v3 σ) else (if 9999 ≤ σ 27 v1n v3.toNatClampNeg 2 then (wp_Tr_sumBeyond_b69 (wp_Tr_sumBeyond_b4 Q f) Q v1n v2 v3 σ) else (vp_in v3 7 ∧ (if 9999 ≤ σ 33 0 0 v3.toNatClampNeg then (wp_Tr_sumBeyond_b69 (wp_Tr_sumBeyond_b4 Q f) Q v1n v2 v3 σ) else (vp_in v3 7 ∧ (wp_Tr_sumBeyond_b69 (wp_Tr_sumBeyond_b4 Q f) Q v1n (v2 + ((σ 27 v1n v3.toNatClampNeg 2) - (σ 33 0 0 v3.toNatClampNeg))) v3 σ)))))))
def wp_Tr_sumBeyond (n1 : Nat) (σ : sx_M) (Q : Int32 → sx_M → Prop) : Prop := ∃ f4, wp_Tr_sumBeyond_b4 Q f4 n1 0 0 σ
abbrev rm_Tr_sumBeyond : Room := { frames := 0, cells := 0, slots := 0, locals := 0 }
set_option maxRecDepth 100000 in
set_option maxHeartbeats 4000000 in
theorem g_Tr_sumBeyond_b69 {l : Launch} {K : sx_K} {X : sx_T}  {k4 : Nat → Int32 → Int32 → sx_M → Prop} {Q : Int32 → sx_M → Prop} (hX : sx_C X K prog_11_method_4_code 5 "SensorTree$Truth" (some .int) rm_Tr_sumBeyond l) (hK : kx_C K) (hE : sx_E X K (sx_Qi K (fun r σ _ => Q r σ)))  (hk4 : ∀ (v1n : Nat) (v2 : Int32) (v3 : Int32) (σ : sx_M) (τ : sx_L) (hv1n : v1n < 25), k4 v1n v2 v3 σ → sx_G X K 5 4 [(0, .ref (K.2.2.1 32 0 0)), (1, .ref (K.2.2.1 16 v1n 0)), (2, .int v2), (3, .int v3)] [] (sx_H K σ τ)) (v1n : Nat) (v2 : Int32) (v3 : Int32) (σ : sx_M) (τ : sx_L) (hv1n : v1n < 25) (h : wp_Tr_sumBeyond_b69 k4 Q  v1n v2 v3 σ) : sx_G X K 5 69 [(0, .ref (K.2.2.1 32 0 0)), (1, .ref (K.2.2.1 16 v1n 0)), (2, .int v2), (3, .int v3)] [] (sx_H K σ τ) := by
  unfold wp_Tr_sumBeyond_b69 at h
  refine sx_iinc (pc2 := 72) hX 3 _ [(0, .ref (K.2.2.1 32 0 0)), (1, .ref (K.2.2.1 16 v1n 0)), (2, .int v2), (3, .int (v3 + 1))] [1, 2, 3, 0] d_Tr_sumBeyond_69 rfl (v3 + 1) rfl (by decide) rfl rfl rfl ?_
  refine sx_goto (tgt := 4) hX d_Tr_sumBeyond_72 (by decide) ?_
  exact hk4 v1n v2 (v3 + 1) _ _ hv1n h
set_option maxRecDepth 100000 in
set_option maxHeartbeats 4000000 in
theorem g_Tr_sumBeyond_b4 {l : Launch} {K : sx_K} {X : sx_T}   {Q : Int32 → sx_M → Prop} (hX : sx_C X K prog_11_method_4_code 5 "SensorTree$Truth" (some .int) rm_Tr_sumBeyond l) (hK : kx_C K) (hE : sx_E X K (sx_Qi K (fun r σ _ => Q r σ)))  : ∀ (f : Nat) (v1n : Nat) (v2 : Int32) (v3 : Int32) (σ : sx_M) (τ : sx_L) (hv1n : v1n < 25), wp_Tr_sumBeyond_b4 Q f v1n v2 v3 σ → sx_G X K 5 4 [(0, .ref (K.2.2.1 32 0 0)), (1, .ref (K.2.2.1 16 v1n 0)), (2, .int v2), (3, .int v3)] [] (sx_H K σ τ) := by
  intro f
  induction f with
  | zero => intro v1n v2 v3 σ τ hv1n h; exact (show False from h).elim
  | succ f ih =>
    intro v1n v2 v3 σ τ hv1n h
    rw [wp_Tr_sumBeyond_b4] at h
    refine sx_iload_n (pc2 := 5) hX 3 d_Tr_sumBeyond_4 rfl rfl rfl ?_
    refine sx_aload_n (pc2 := 6) hX 1 d_Tr_sumBeyond_5 rfl rfl rfl ?_
    refine fg_Tr_15 (pc2 := 9) hX (hK 16 v1n 0 hv1n (by decide)) d_Tr_sumBeyond_6 rfl ?_
    refine fg_Tr_21 (pc2 := 12) hX (hK 8 0 0 (by decide) (by decide)) d_Tr_sumBeyond_9 rfl ?_
    refine sx_icmp_ge (tgt := 75) (pc2 := 15) hX d_Tr_sumBeyond_12 (by decide) rfl (fun hc1 => ?_) (fun hc1 => ?_)
    · replace h := sx_t h hc1
      refine sx_iload_n (pc2 := 76) hX 2 d_Tr_sumBeyond_75 rfl rfl rfl ?_
      exact sx_iret hX hE h d_Tr_sumBeyond_76
    · replace h := sx_f h hc1
      refine sx_aload_n (pc2 := 16) hX 1 d_Tr_sumBeyond_15 rfl rfl rfl ?_
      refine fg_Tr_50 (pc2 := 19) hX (hK 16 v1n 0 hv1n (by decide)) d_Tr_sumBeyond_16 rfl ?_
      refine sx_iload_n (pc2 := 20) hX 3 d_Tr_sumBeyond_19 rfl rfl rfl ?_
      obtain ⟨hc2, h⟩ := h
      refine sx_aald (a := K.2.2.1 27 v1n v3.toNatClampNeg) (pc2 := 21) hX (hK 17 v1n 0 hv1n (by decide)) 4 rfl rfl rfl hc2 d_Tr_sumBeyond_20 rfl ?_
      refine sx_astore (pc2 := 23) hX _ [(0, .ref (K.2.2.1 32 0 0)), (1, .ref (K.2.2.1 16 v1n 0)), (2, .int v2), (3, .int v3), (4, .ref (K.2.2.1 27 v1n v3.toNatClampNeg))] [1, 2, 3, 4, 0] d_Tr_sumBeyond_21 (by decide) rfl rfl rfl ?_
      refine sx_aload (pc2 := 25) hX 4 d_Tr_sumBeyond_23 rfl rfl ?_
      refine fg_Tr_53 (pc2 := 28) hX (hK 27 v1n v3.toNatClampNeg hv1n (sx_lt hc2)) d_Tr_sumBeyond_25 rfl ?_
      refine sx_if_eq (tgt := 69) (pc2 := 31) hX d_Tr_sumBeyond_28 (by decide) rfl (fun hc3 => ?_) (fun hc3 => ?_)
      · replace h := sx_t h hc3
        refine sx_sub [(0, .ref (K.2.2.1 32 0 0)), (1, .ref (K.2.2.1 16 v1n 0)), (2, .int v2), (3, .int v3)] [0, 1, 2, 3] rfl ?_
        exact g_Tr_sumBeyond_b69 hX hK hE  ih v1n v2 v3 _ _ hv1n h
      · replace h := sx_f h hc3
        refine sx_aload (pc2 := 33) hX 4 d_Tr_sumBeyond_31 rfl rfl ?_
        refine fg_Tr_59 (pc2 := 36) hX (hK 27 v1n v3.toNatClampNeg hv1n (sx_lt hc2)) d_Tr_sumBeyond_33 rfl ?_
        refine sx_sipush (v := 9999) (pc2 := 39) hX d_Tr_sumBeyond_36 (by decide) rfl ?_
        refine sx_icmp_ge (tgt := 69) (pc2 := 42) hX d_Tr_sumBeyond_39 (by decide) rfl (fun hc4 => ?_) (fun hc4 => ?_)
        · replace h := sx_t h hc4
          refine sx_sub [(0, .ref (K.2.2.1 32 0 0)), (1, .ref (K.2.2.1 16 v1n 0)), (2, .int v2), (3, .int v3)] [0, 1, 2, 3] rfl ?_
          exact g_Tr_sumBeyond_b69 hX hK hE  ih v1n v2 v3 _ _ hv1n h
        · replace h := sx_f h hc4
          refine sx_aload_n (pc2 := 43) hX 0 d_Tr_sumBeyond_42 rfl rfl rfl ?_
          refine fg_Tr_9 (pc2 := 46) hX (hK 32 0 0 (by decide) (by decide)) d_Tr_sumBeyond_43 rfl ?_
          refine sx_iload_n (pc2 := 47) hX 3 d_Tr_sumBeyond_46 rfl rfl rfl ?_
          obtain ⟨hc5, h⟩ := h
          refine sx_iald (pc2 := 48) hX (hK 33 0 0 (by decide) (by decide)) rfl hc5 d_Tr_sumBeyond_47 rfl ?_
          refine sx_sipush (v := 9999) (pc2 := 51) hX d_Tr_sumBeyond_48 (by decide) rfl ?_
          refine sx_icmp_ge (tgt := 69) (pc2 := 54) hX d_Tr_sumBeyond_51 (by decide) rfl (fun hc6 => ?_) (fun hc6 => ?_)
          · replace h := sx_t h hc6
            refine sx_sub [(0, .ref (K.2.2.1 32 0 0)), (1, .ref (K.2.2.1 16 v1n 0)), (2, .int v2), (3, .int v3)] [0, 1, 2, 3] rfl ?_
            exact g_Tr_sumBeyond_b69 hX hK hE  ih v1n v2 v3 _ _ hv1n h
          · replace h := sx_f h hc6
            refine sx_iload_n (pc2 := 55) hX 2 d_Tr_sumBeyond_54 rfl rfl rfl ?_
            refine sx_aload (pc2 := 57) hX 4 d_Tr_sumBeyond_55 rfl rfl ?_
            refine fg_Tr_59 (pc2 := 60) hX (hK 27 v1n v3.toNatClampNeg hv1n (sx_lt hc2)) d_Tr_sumBeyond_57 rfl ?_
            refine sx_aload_n (pc2 := 61) hX 0 d_Tr_sumBeyond_60 rfl rfl rfl ?_
            refine fg_Tr_9 (pc2 := 64) hX (hK 32 0 0 (by decide) (by decide)) d_Tr_sumBeyond_61 rfl ?_
            refine sx_iload_n (pc2 := 65) hX 3 d_Tr_sumBeyond_64 rfl rfl rfl ?_
            obtain ⟨hc7, h⟩ := h
            refine sx_iald (pc2 := 66) hX (hK 33 0 0 (by decide) (by decide)) rfl hc7 d_Tr_sumBeyond_65 rfl ?_
            refine sx_isub (pc2 := 67) hX d_Tr_sumBeyond_66 rfl ?_
            refine sx_iadd (pc2 := 68) hX d_Tr_sumBeyond_67 rfl ?_
            refine sx_istore_n (pc2 := 69) hX _ [(0, .ref (K.2.2.1 32 0 0)), (1, .ref (K.2.2.1 16 v1n 0)), (2, .int (v2 + ((σ 27 v1n v3.toNatClampNeg 2) - (σ 33 0 0 v3.toNatClampNeg)))), (3, .int v3), (4, .ref (K.2.2.1 27 v1n v3.toNatClampNeg))] [1, 2, 0, 3, 4] d_Tr_sumBeyond_68 rfl (by decide) rfl rfl rfl ?_
            refine sx_sub [(0, .ref (K.2.2.1 32 0 0)), (1, .ref (K.2.2.1 16 v1n 0)), (2, .int (v2 + ((σ 27 v1n v3.toNatClampNeg 2) - (σ 33 0 0 v3.toNatClampNeg)))), (3, .int v3)] [0, 1, 2, 3] rfl ?_
            exact g_Tr_sumBeyond_b69 hX hK hE  ih v1n (v2 + ((σ 27 v1n v3.toNatClampNeg 2) - (σ 33 0 0 v3.toNatClampNeg))) v3 _ _ hv1n h
set_option maxRecDepth 100000 in
set_option maxHeartbeats 4000000 in
theorem c_Tr_sumBeyond {l : Launch} {K : sx_K} (hK : kx_C K) (n1 : Nat) (σ : sx_M) (τ : sx_L) (Q : Int32 → sx_M → Prop) (hn1 : n1 < 25) (h : wp_Tr_sumBeyond n1 σ Q) : Met l y_Tr_sumBeyond (sx_wd y_Tr_sumBeyond prog_11_method_4_code 5 (some .int)) rm_Tr_sumBeyond (sx_Pc K [.ref (K.2.2.1 32 0 0), .ref (K.2.2.1 16 n1 0)] σ τ) (sx_Qi K (fun r σ _ => Q r σ)) 0 0 (sx_A K) := by
  refine sx_met (by decide) (Nat.le_of_ble_eq_true rfl) (fun X hX hE => ?_)
  replace hX : sx_C X K prog_11_method_4_code 5 "SensorTree$Truth" (some .int) rm_Tr_sumBeyond l := hX
  show sx_G X K 5 0 [(0, .ref (K.2.2.1 32 0 0)), (1, .ref (K.2.2.1 16 n1 0))] [] (sx_H K σ τ)
  unfold wp_Tr_sumBeyond at h
  refine sx_iconst (v := 0) (pc2 := 1) hX d_Tr_sumBeyond_0 (by decide) rfl ?_
  refine sx_istore_n (pc2 := 2) hX _ [(0, .ref (K.2.2.1 32 0 0)), (1, .ref (K.2.2.1 16 n1 0)), (2, .int 0)] [1, 2, 0] d_Tr_sumBeyond_1 rfl (by decide) rfl rfl rfl ?_
  refine sx_iconst (v := 0) (pc2 := 3) hX d_Tr_sumBeyond_2 (by decide) rfl ?_
  refine sx_istore_n (pc2 := 4) hX _ [(0, .ref (K.2.2.1 32 0 0)), (1, .ref (K.2.2.1 16 n1 0)), (2, .int 0), (3, .int 0)] [1, 2, 3, 0] d_Tr_sumBeyond_3 rfl (by decide) rfl rfl rfl ?_
  obtain ⟨f4, h⟩ := h
  exact g_Tr_sumBeyond_b4 hX hK hE   f4 n1 0 0 _ _ hn1 h
theorem cl_St_270 {X : sx_T} {K : sx_K} {cc : ByteArray} {nL : Nat} {ret : Option FieldType} {rm : Room} {l : Launch} {pc pc2 : Nat} {lv : List (Nat × Value)} {st : List Value} {σ : sx_M} {τ : sx_L} {n1 : Nat} {Q : Int32 → sx_M → Prop} (hX : sx_C X K cc nL "SensorTree" ret rm l) (hK : kx_C K) (h : wp_Tr_sumBeyond n1 σ Q) (hn1 : n1 < 25) (hR : rm_Tr_sumBeyond.frames + 1 ≤ rm.frames ∧ 8 + (5 + 11) + rm_Tr_sumBeyond.locals ≤ rm.locals) (hst : (st.map fun v => v.category).sum ≤ 8) (hd : decode cc pc = .ok (.invokevirtual 270, 3)) (hpc : pc + 3 = pc2) (kk : ∀ (r : Int32) (σ2 : sx_M) (τ2 : sx_L), Q r σ2 → sx_G X K nL pc2 lv (.int r :: st) (sx_H K σ2 τ2)) : sx_G X K nL pc lv (.ref (K.2.2.1 16 n1 0) :: .ref (K.2.2.1 32 0 0) :: st) (sx_H K σ τ) :=
  sx_callVi (Q := fun r σ _ => Q r σ) (As := [.ref (K.2.2.1 16 n1 0)]) hX (c_Tr_sumBeyond hK n1 σ τ Q hn1 h) (hK 32 0 0 (by decide) (by decide)) rfl rfl lk_339 lk_340 hy_Tr_sumBeyond lk_337 lk_240 lk_338 ⟨rfl, rfl⟩ hR hst rfl hd hpc kk
def y_Tr_isPostRight : MethodName := ⟨"SensorTree$Truth", "isPostRight", "(LSensorTree$Net;I)Z"⟩
theorem hy_Tr_isPostRight : y_Tr_isPostRight.cls ≠ "java/lang/invoke/MethodHandle" ∧ y_Tr_isPostRight.cls ≠ "java/lang/invoke/VarHandle" ∧ (parseMethodDescriptor y_Tr_isPostRight.desc).map (fun d => d.parameters.length) = some 2 := by decide +kernel
theorem d_Tr_isPostRight_0 : decode prog_11_method_6_code 0 = .ok (.aload_n 1, 1) := by decide +kernel
theorem d_Tr_isPostRight_1 : decode prog_11_method_6_code 1 = .ok (.getfield 50, 3) := by decide +kernel
theorem d_Tr_isPostRight_4 : decode prog_11_method_6_code 4 = .ok (.iload_n 2, 1) := by decide +kernel
theorem d_Tr_isPostRight_5 : decode prog_11_method_6_code 5 = .ok (.aaload, 1) := by decide +kernel
theorem d_Tr_isPostRight_6 : decode prog_11_method_6_code 6 = .ok (.astore_n 3, 1) := by decide +kernel
theorem d_Tr_isPostRight_7 : decode prog_11_method_6_code 7 = .ok (.aload_n 3, 1) := by decide +kernel
theorem d_Tr_isPostRight_8 : decode prog_11_method_6_code 8 = .ok (.getfield 65, 3) := by decide +kernel
theorem d_Tr_isPostRight_11 : decode prog_11_method_6_code 11 = .ok (.aload_n 1, 1) := by decide +kernel
theorem d_Tr_isPostRight_12 : decode prog_11_method_6_code 12 = .ok (.getfield 50, 3) := by decide +kernel
theorem d_Tr_isPostRight_15 : decode prog_11_method_6_code 15 = .ok (.iconst 0, 1) := by decide +kernel
theorem d_Tr_isPostRight_16 : decode prog_11_method_6_code 16 = .ok (.aaload, 1) := by decide +kernel
theorem d_Tr_isPostRight_17 : decode prog_11_method_6_code 17 = .ok (.getfield 65, 3) := by decide +kernel
theorem d_Tr_isPostRight_20 : decode prog_11_method_6_code 20 = .ok (.if_icmp .eq 5, 3) := by decide +kernel
theorem d_Tr_isPostRight_23 : decode prog_11_method_6_code 23 = .ok (.iconst 0, 1) := by decide +kernel
theorem d_Tr_isPostRight_24 : decode prog_11_method_6_code 24 = .ok (.ireturn, 1) := by decide +kernel
theorem d_Tr_isPostRight_25 : decode prog_11_method_6_code 25 = .ok (.aload_n 0, 1) := by decide +kernel
theorem d_Tr_isPostRight_26 : decode prog_11_method_6_code 26 = .ok (.getfield 9, 3) := by decide +kernel
theorem d_Tr_isPostRight_29 : decode prog_11_method_6_code 29 = .ok (.iload_n 2, 1) := by decide +kernel
theorem d_Tr_isPostRight_30 : decode prog_11_method_6_code 30 = .ok (.iaload, 1) := by decide +kernel
theorem d_Tr_isPostRight_31 : decode prog_11_method_6_code 31 = .ok (.sipush 9999, 3) := by decide +kernel
theorem d_Tr_isPostRight_34 : decode prog_11_method_6_code 34 = .ok (.if_icmp .lt 19, 3) := by decide +kernel
theorem d_Tr_isPostRight_37 : decode prog_11_method_6_code 37 = .ok (.aload_n 3, 1) := by decide +kernel
theorem d_Tr_isPostRight_38 : decode prog_11_method_6_code 38 = .ok (.getfield 59, 3) := by decide +kernel
theorem d_Tr_isPostRight_41 : decode prog_11_method_6_code 41 = .ok (.sipush 9999, 3) := by decide +kernel
theorem d_Tr_isPostRight_44 : decode prog_11_method_6_code 44 = .ok (.if_icmp .ne 7, 3) := by decide +kernel
theorem d_Tr_isPostRight_47 : decode prog_11_method_6_code 47 = .ok (.iconst 1, 1) := by decide +kernel
theorem d_Tr_isPostRight_48 : decode prog_11_method_6_code 48 = .ok (.goto 4, 3) := by decide +kernel
theorem d_Tr_isPostRight_51 : decode prog_11_method_6_code 51 = .ok (.iconst 0, 1) := by decide +kernel
theorem d_Tr_isPostRight_52 : decode prog_11_method_6_code 52 = .ok (.ireturn, 1) := by decide +kernel
theorem d_Tr_isPostRight_53 : decode prog_11_method_6_code 53 = .ok (.aload_n 1, 1) := by decide +kernel
theorem d_Tr_isPostRight_54 : decode prog_11_method_6_code 54 = .ok (.iload_n 2, 1) := by decide +kernel
theorem d_Tr_isPostRight_55 : decode prog_11_method_6_code 55 = .ok (.aload_n 3, 1) := by decide +kernel
theorem d_Tr_isPostRight_56 : decode prog_11_method_6_code 56 = .ok (.getfield 68, 3) := by decide +kernel
theorem d_Tr_isPostRight_59 : decode prog_11_method_6_code 59 = .ok (.invokevirtual 36, 3) := by decide +kernel
theorem d_Tr_isPostRight_62 : decode prog_11_method_6_code 62 = .ok (.ifCond .ne 5, 3) := by decide +kernel
theorem d_Tr_isPostRight_65 : decode prog_11_method_6_code 65 = .ok (.iconst 0, 1) := by decide +kernel
theorem d_Tr_isPostRight_66 : decode prog_11_method_6_code 66 = .ok (.ireturn, 1) := by decide +kernel
theorem d_Tr_isPostRight_67 : decode prog_11_method_6_code 67 = .ok (.aload_n 1, 1) := by decide +kernel
theorem d_Tr_isPostRight_68 : decode prog_11_method_6_code 68 = .ok (.aload_n 1, 1) := by decide +kernel
theorem d_Tr_isPostRight_69 : decode prog_11_method_6_code 69 = .ok (.getfield 15, 3) := by decide +kernel
theorem d_Tr_isPostRight_72 : decode prog_11_method_6_code 72 = .ok (.getfield 71, 3) := by decide +kernel
theorem d_Tr_isPostRight_75 : decode prog_11_method_6_code 75 = .ok (.iload_n 2, 1) := by decide +kernel
theorem d_Tr_isPostRight_76 : decode prog_11_method_6_code 76 = .ok (.aaload, 1) := by decide +kernel
theorem d_Tr_isPostRight_77 : decode prog_11_method_6_code 77 = .ok (.aload_n 3, 1) := by decide +kernel
theorem d_Tr_isPostRight_78 : decode prog_11_method_6_code 78 = .ok (.getfield 68, 3) := by decide +kernel
theorem d_Tr_isPostRight_81 : decode prog_11_method_6_code 81 = .ok (.iaload, 1) := by decide +kernel
theorem d_Tr_isPostRight_82 : decode prog_11_method_6_code 82 = .ok (.invokevirtual 40, 3) := by decide +kernel
theorem d_Tr_isPostRight_85 : decode prog_11_method_6_code 85 = .ok (.istore 4, 2) := by decide +kernel
theorem d_Tr_isPostRight_87 : decode prog_11_method_6_code 87 = .ok (.aload_n 1, 1) := by decide +kernel
theorem d_Tr_isPostRight_88 : decode prog_11_method_6_code 88 = .ok (.getfield 50, 3) := by decide +kernel
theorem d_Tr_isPostRight_91 : decode prog_11_method_6_code 91 = .ok (.aload_n 3, 1) := by decide +kernel
theorem d_Tr_isPostRight_92 : decode prog_11_method_6_code 92 = .ok (.getfield 68, 3) := by decide +kernel
theorem d_Tr_isPostRight_95 : decode prog_11_method_6_code 95 = .ok (.aaload, 1) := by decide +kernel
theorem d_Tr_isPostRight_96 : decode prog_11_method_6_code 96 = .ok (.getfield 59, 3) := by decide +kernel
theorem d_Tr_isPostRight_99 : decode prog_11_method_6_code 99 = .ok (.iload 4, 2) := by decide +kernel
theorem d_Tr_isPostRight_101 : decode prog_11_method_6_code 101 = .ok (.iadd, 1) := by decide +kernel
theorem d_Tr_isPostRight_102 : decode prog_11_method_6_code 102 = .ok (.aload_n 3, 1) := by decide +kernel
theorem d_Tr_isPostRight_103 : decode prog_11_method_6_code 103 = .ok (.getfield 59, 3) := by decide +kernel
theorem d_Tr_isPostRight_106 : decode prog_11_method_6_code 106 = .ok (.if_icmp .ne 16, 3) := by decide +kernel
theorem d_Tr_isPostRight_109 : decode prog_11_method_6_code 109 = .ok (.aload_n 1, 1) := by decide +kernel
theorem d_Tr_isPostRight_110 : decode prog_11_method_6_code 110 = .ok (.iload_n 2, 1) := by decide +kernel
theorem d_Tr_isPostRight_111 : decode prog_11_method_6_code 111 = .ok (.iconst 0, 1) := by decide +kernel
theorem d_Tr_isPostRight_112 : decode prog_11_method_6_code 112 = .ok (.invokevirtual 75, 3) := by decide +kernel
theorem d_Tr_isPostRight_115 : decode prog_11_method_6_code 115 = .ok (.ifCond .eq 7, 3) := by decide +kernel
theorem d_Tr_isPostRight_118 : decode prog_11_method_6_code 118 = .ok (.iconst 1, 1) := by decide +kernel
theorem d_Tr_isPostRight_119 : decode prog_11_method_6_code 119 = .ok (.goto 4, 3) := by decide +kernel
theorem d_Tr_isPostRight_122 : decode prog_11_method_6_code 122 = .ok (.iconst 0, 1) := by decide +kernel
theorem d_Tr_isPostRight_123 : decode prog_11_method_6_code 123 = .ok (.ireturn, 1) := by decide +kernel
def wp_Tr_isPostRight_b123   (Q : Int32 → sx_M → Prop) (w0 : Int32) (σ : sx_M) : Prop := (w0 = 0 ∨ w0 = 1) ∧ (Q w0 σ)
def wp_Tr_isPostRight_b122   (Q : Int32 → sx_M → Prop)  (σ : sx_M) : Prop := wp_Tr_isPostRight_b123 Q 0 σ
def wp_Tr_isPostRight_b52   (Q : Int32 → sx_M → Prop) (w0 : Int32) (σ : sx_M) : Prop := (w0 = 0 ∨ w0 = 1) ∧ (Q w0 σ)
def wp_Tr_isPostRight (n1 : Nat) (x2 : Int32) (σ : sx_M) (Q : Int32 → sx_M → Prop) : Prop := vp_in x2 7 ∧ (vp_in 0 7 ∧ (if σ 27 n1 x2.toNatClampNeg 1 = σ 27 n1 ((0 : Int32).toNatClampNeg) 1 then (vp_in x2 7 ∧ (if σ 33 0 0 x2.toNatClampNeg < 9999 then (wp_Ne_areNeighbours n1 x2 (σ 27 n1 x2.toNatClampNeg 3) σ (fun r8 σ8 => if r8 = 0 then (Q 0 σ8) else (vp_in x2 7 ∧ (vp_in (σ8 27 n1 x2.toNatClampNeg 3) 7 ∧ (wp_Ne_stepOf n1 (σ8 13 0 x2.toNatClampNeg (σ8 27 n1 x2.toNatClampNeg 3).toNatClampNeg) σ8 (fun r12 σ12 => vp_in (σ12 27 n1 x2.toNatClampNeg 3) 7 ∧ (if (σ12 27 n1 ((σ12 27 n1 x2.toNatClampNeg 3).toNatClampNeg) 2) + r12 = σ12 27 n1 x2.toNatClampNeg 2 then (wp_Ne_comesTo n1 x2 (0 : Int32) σ12 (fun r15 σ15 => if r15 = 0 then (wp_Tr_isPostRight_b122 Q σ15) else (wp_Tr_isPostRight_b123 Q 1 σ15))) else (wp_Tr_isPostRight_b122 Q σ12)))))))) else (if σ 27 n1 x2.toNatClampNeg 2 = 9999 then (wp_Tr_isPostRight_b52 Q 1 σ) else (wp_Tr_isPostRight_b52 Q 0 σ)))) else (Q 0 σ)))
abbrev rm_Tr_isPostRight : Room := { frames := 2, cells := 0, slots := 0, locals := 45 }
set_option maxRecDepth 100000 in
set_option maxHeartbeats 4000000 in
theorem g_Tr_isPostRight_b123 {l : Launch} {K : sx_K} {X : sx_T}   {Q : Int32 → sx_M → Prop} (hX : sx_C X K prog_11_method_6_code 5 "SensorTree$Truth" (some .boolean) rm_Tr_isPostRight l) (hK : kx_C K) (hE : sx_E X K (sx_Qi K (fun r σ _ => Q r σ)))  (w0 : Int32) (σ : sx_M) (τ : sx_L)  (h : wp_Tr_isPostRight_b123 Q  w0 σ) : sx_G X K 5 123 [] [.int w0] (sx_H K σ τ) := by
  unfold wp_Tr_isPostRight_b123 at h
  obtain ⟨hc1, h⟩ := h
  exact sx_zret hX hE hc1 h d_Tr_isPostRight_123
set_option maxRecDepth 100000 in
set_option maxHeartbeats 4000000 in
theorem g_Tr_isPostRight_b122 {l : Launch} {K : sx_K} {X : sx_T}   {Q : Int32 → sx_M → Prop} (hX : sx_C X K prog_11_method_6_code 5 "SensorTree$Truth" (some .boolean) rm_Tr_isPostRight l) (hK : kx_C K) (hE : sx_E X K (sx_Qi K (fun r σ _ => Q r σ)))   (σ : sx_M) (τ : sx_L)  (h : wp_Tr_isPostRight_b122 Q  σ) : sx_G X K 5 122 [] [] (sx_H K σ τ) := by
  unfold wp_Tr_isPostRight_b122 at h
  refine sx_iconst (v := 0) (pc2 := 123) hX d_Tr_isPostRight_122 (by decide) rfl ?_
  exact g_Tr_isPostRight_b123 hX hK hE   0 _ _ h
set_option maxRecDepth 100000 in
set_option maxHeartbeats 4000000 in
theorem g_Tr_isPostRight_b52 {l : Launch} {K : sx_K} {X : sx_T}   {Q : Int32 → sx_M → Prop} (hX : sx_C X K prog_11_method_6_code 5 "SensorTree$Truth" (some .boolean) rm_Tr_isPostRight l) (hK : kx_C K) (hE : sx_E X K (sx_Qi K (fun r σ _ => Q r σ)))  (w0 : Int32) (σ : sx_M) (τ : sx_L)  (h : wp_Tr_isPostRight_b52 Q  w0 σ) : sx_G X K 5 52 [] [.int w0] (sx_H K σ τ) := by
  unfold wp_Tr_isPostRight_b52 at h
  obtain ⟨hc2, h⟩ := h
  exact sx_zret hX hE hc2 h d_Tr_isPostRight_52
set_option maxRecDepth 100000 in
set_option maxHeartbeats 4000000 in
theorem c_Tr_isPostRight {l : Launch} {K : sx_K} (hK : kx_C K) (n1 : Nat) (x2 : Int32) (σ : sx_M) (τ : sx_L) (Q : Int32 → sx_M → Prop) (hn1 : n1 < 25) (h : wp_Tr_isPostRight n1 x2 σ Q) : Met l y_Tr_isPostRight (sx_wd y_Tr_isPostRight prog_11_method_6_code 5 (some .boolean)) rm_Tr_isPostRight (sx_Pc K [.ref (K.2.2.1 32 0 0), .ref (K.2.2.1 16 n1 0), .int x2] σ τ) (sx_Qi K (fun r σ _ => Q r σ)) 0 0 (sx_A K) := by
  refine sx_met (by decide) (Nat.le_of_ble_eq_true rfl) (fun X hX hE => ?_)
  replace hX : sx_C X K prog_11_method_6_code 5 "SensorTree$Truth" (some .boolean) rm_Tr_isPostRight l := hX
  show sx_G X K 5 0 [(0, .ref (K.2.2.1 32 0 0)), (1, .ref (K.2.2.1 16 n1 0)), (2, .int x2)] [] (sx_H K σ τ)
  unfold wp_Tr_isPostRight at h
  refine sx_aload_n (pc2 := 1) hX 1 d_Tr_isPostRight_0 rfl rfl rfl ?_
  refine fg_Tr_50 (pc2 := 4) hX (hK 16 n1 0 hn1 (by decide)) d_Tr_isPostRight_1 rfl ?_
  refine sx_iload_n (pc2 := 5) hX 2 d_Tr_isPostRight_4 rfl rfl rfl ?_
  obtain ⟨hc3, h⟩ := h
  refine sx_aald (a := K.2.2.1 27 n1 x2.toNatClampNeg) (pc2 := 6) hX (hK 17 n1 0 hn1 (by decide)) 4 rfl rfl rfl hc3 d_Tr_isPostRight_5 rfl ?_
  refine sx_astore_n (pc2 := 7) hX _ [(0, .ref (K.2.2.1 32 0 0)), (1, .ref (K.2.2.1 16 n1 0)), (2, .int x2), (3, .ref (K.2.2.1 27 n1 x2.toNatClampNeg))] [1, 2, 3, 0] d_Tr_isPostRight_6 rfl (by decide) rfl rfl rfl ?_
  refine sx_aload_n (pc2 := 8) hX 3 d_Tr_isPostRight_7 rfl rfl rfl ?_
  refine fg_Tr_65 (pc2 := 11) hX (hK 27 n1 x2.toNatClampNeg hn1 (sx_lt hc3)) d_Tr_isPostRight_8 rfl ?_
  refine sx_aload_n (pc2 := 12) hX 1 d_Tr_isPostRight_11 rfl rfl rfl ?_
  refine fg_Tr_50 (pc2 := 15) hX (hK 16 n1 0 hn1 (by decide)) d_Tr_isPostRight_12 rfl ?_
  refine sx_iconst (v := 0) (pc2 := 16) hX d_Tr_isPostRight_15 (by decide) rfl ?_
  obtain ⟨hc4, h⟩ := h
  refine sx_aald (a := K.2.2.1 27 n1 ((0 : Int32).toNatClampNeg)) (pc2 := 17) hX (hK 17 n1 0 hn1 (by decide)) 4 rfl rfl rfl hc4 d_Tr_isPostRight_16 rfl ?_
  refine fg_Tr_65 (pc2 := 20) hX (hK 27 n1 ((0 : Int32).toNatClampNeg) hn1 (sx_lt hc4)) d_Tr_isPostRight_17 rfl ?_
  refine sx_icmp_eq (tgt := 25) (pc2 := 23) hX d_Tr_isPostRight_20 (by decide) rfl (fun hc5 => ?_) (fun hc5 => ?_)
  · replace h := sx_t h hc5
    refine sx_aload_n (pc2 := 26) hX 0 d_Tr_isPostRight_25 rfl rfl rfl ?_
    refine fg_Tr_9 (pc2 := 29) hX (hK 32 0 0 (by decide) (by decide)) d_Tr_isPostRight_26 rfl ?_
    refine sx_iload_n (pc2 := 30) hX 2 d_Tr_isPostRight_29 rfl rfl rfl ?_
    obtain ⟨hc6, h⟩ := h
    refine sx_iald (pc2 := 31) hX (hK 33 0 0 (by decide) (by decide)) rfl hc6 d_Tr_isPostRight_30 rfl ?_
    refine sx_sipush (v := 9999) (pc2 := 34) hX d_Tr_isPostRight_31 (by decide) rfl ?_
    refine sx_icmp_lt (tgt := 53) (pc2 := 37) hX d_Tr_isPostRight_34 (by decide) rfl (fun hc7 => ?_) (fun hc7 => ?_)
    · replace h := sx_t h hc7
      refine sx_aload_n (pc2 := 54) hX 1 d_Tr_isPostRight_53 rfl rfl rfl ?_
      refine sx_iload_n (pc2 := 55) hX 2 d_Tr_isPostRight_54 rfl rfl rfl ?_
      refine sx_aload_n (pc2 := 56) hX 3 d_Tr_isPostRight_55 rfl rfl rfl ?_
      refine fg_Tr_68 (pc2 := 59) hX (hK 27 n1 x2.toNatClampNeg hn1 (sx_lt hc3)) d_Tr_isPostRight_56 rfl ?_
      refine cl_Tr_36 (pc2 := 62) hX hK h hn1 ⟨Nat.le_of_ble_eq_true rfl, Nat.le_of_ble_eq_true rfl⟩ (Nat.le_of_ble_eq_true rfl) d_Tr_isPostRight_59 rfl (fun r8 σ8 τ8 h => ?_)
      refine sx_if_ne (tgt := 67) (pc2 := 65) hX d_Tr_isPostRight_62 (by decide) rfl (fun hc9 => ?_) (fun hc9 => ?_)
      · replace h := sx_f h hc9
        refine sx_aload_n (pc2 := 68) hX 1 d_Tr_isPostRight_67 rfl rfl rfl ?_
        refine sx_aload_n (pc2 := 69) hX 1 d_Tr_isPostRight_68 rfl rfl rfl ?_
        refine fg_Tr_15 (pc2 := 72) hX (hK 16 n1 0 hn1 (by decide)) d_Tr_isPostRight_69 rfl ?_
        refine fg_Tr_71 (pc2 := 75) hX (hK 8 0 0 (by decide) (by decide)) d_Tr_isPostRight_72 rfl ?_
        refine sx_iload_n (pc2 := 76) hX 2 d_Tr_isPostRight_75 rfl rfl rfl ?_
        obtain ⟨hc10, h⟩ := h
        refine sx_aalA (a := K.2.2.1 13 0 x2.toNatClampNeg) (pc2 := 77) hX (hK 12 0 0 (by decide) (by decide)) rfl rfl hc10 d_Tr_isPostRight_76 rfl ?_
        refine sx_aload_n (pc2 := 78) hX 3 d_Tr_isPostRight_77 rfl rfl rfl ?_
        refine fg_Tr_68 (pc2 := 81) hX (hK 27 n1 x2.toNatClampNeg hn1 (sx_lt hc3)) d_Tr_isPostRight_78 rfl ?_
        obtain ⟨hc11, h⟩ := h
        refine sx_iald (pc2 := 82) hX (hK 13 0 x2.toNatClampNeg (by decide) (sx_lt hc10)) rfl hc11 d_Tr_isPostRight_81 rfl ?_
        refine cl_Tr_40 (pc2 := 85) hX hK h hn1 ⟨Nat.le_of_ble_eq_true rfl, Nat.le_of_ble_eq_true rfl⟩ (Nat.le_of_ble_eq_true rfl) d_Tr_isPostRight_82 rfl (fun r12 σ12 τ12 h => ?_)
        refine sx_istore (pc2 := 87) hX _ [(0, .ref (K.2.2.1 32 0 0)), (1, .ref (K.2.2.1 16 n1 0)), (2, .int x2), (3, .ref (K.2.2.1 27 n1 x2.toNatClampNeg)), (4, .int r12)] [1, 2, 3, 4, 0] d_Tr_isPostRight_85 (by decide) rfl rfl rfl ?_
        refine sx_aload_n (pc2 := 88) hX 1 d_Tr_isPostRight_87 rfl rfl rfl ?_
        refine fg_Tr_50 (pc2 := 91) hX (hK 16 n1 0 hn1 (by decide)) d_Tr_isPostRight_88 rfl ?_
        refine sx_aload_n (pc2 := 92) hX 3 d_Tr_isPostRight_91 rfl rfl rfl ?_
        refine fg_Tr_68 (pc2 := 95) hX (hK 27 n1 x2.toNatClampNeg hn1 (sx_lt hc3)) d_Tr_isPostRight_92 rfl ?_
        obtain ⟨hc13, h⟩ := h
        refine sx_aald (a := K.2.2.1 27 n1 ((σ12 27 n1 x2.toNatClampNeg 3).toNatClampNeg)) (pc2 := 96) hX (hK 17 n1 0 hn1 (by decide)) 4 rfl rfl rfl hc13 d_Tr_isPostRight_95 rfl ?_
        refine fg_Tr_59 (pc2 := 99) hX (hK 27 n1 ((σ12 27 n1 x2.toNatClampNeg 3).toNatClampNeg) hn1 (sx_lt hc13)) d_Tr_isPostRight_96 rfl ?_
        refine sx_iload (pc2 := 101) hX 4 d_Tr_isPostRight_99 rfl rfl ?_
        refine sx_iadd (pc2 := 102) hX d_Tr_isPostRight_101 rfl ?_
        refine sx_aload_n (pc2 := 103) hX 3 d_Tr_isPostRight_102 rfl rfl rfl ?_
        refine fg_Tr_59 (pc2 := 106) hX (hK 27 n1 x2.toNatClampNeg hn1 (sx_lt hc3)) d_Tr_isPostRight_103 rfl ?_
        refine sx_icmp_ne (tgt := 122) (pc2 := 109) hX d_Tr_isPostRight_106 (by decide) rfl (fun hc14 => ?_) (fun hc14 => ?_)
        · replace h := sx_f h hc14
          refine sx_sub [] [] rfl ?_
          exact g_Tr_isPostRight_b122 hX hK hE   _ _ h
        · replace h := sx_t h hc14
          refine sx_aload_n (pc2 := 110) hX 1 d_Tr_isPostRight_109 rfl rfl rfl ?_
          refine sx_iload_n (pc2 := 111) hX 2 d_Tr_isPostRight_110 rfl rfl rfl ?_
          refine sx_iconst (v := 0) (pc2 := 112) hX d_Tr_isPostRight_111 (by decide) rfl ?_
          refine cl_Tr_75 (pc2 := 115) hX hK h hn1 ⟨Nat.le_of_ble_eq_true rfl, Nat.le_of_ble_eq_true rfl⟩ (Nat.le_of_ble_eq_true rfl) d_Tr_isPostRight_112 rfl (fun r15 σ15 τ15 h => ?_)
          refine sx_if_eq (tgt := 122) (pc2 := 118) hX d_Tr_isPostRight_115 (by decide) rfl (fun hc16 => ?_) (fun hc16 => ?_)
          · replace h := sx_t h hc16
            refine sx_sub [] [] rfl ?_
            exact g_Tr_isPostRight_b122 hX hK hE   _ _ h
          · replace h := sx_f h hc16
            refine sx_iconst (v := 1) (pc2 := 119) hX d_Tr_isPostRight_118 (by decide) rfl ?_
            refine sx_goto (tgt := 123) hX d_Tr_isPostRight_119 (by decide) ?_
            refine sx_sub [] [] rfl ?_
            exact g_Tr_isPostRight_b123 hX hK hE   1 _ _ h
      · replace h := sx_t h hc9
        refine sx_iconst (v := 0) (pc2 := 66) hX d_Tr_isPostRight_65 (by decide) rfl ?_
        exact sx_zret hX hE (by decide) h d_Tr_isPostRight_66
    · replace h := sx_f h hc7
      refine sx_aload_n (pc2 := 38) hX 3 d_Tr_isPostRight_37 rfl rfl rfl ?_
      refine fg_Tr_59 (pc2 := 41) hX (hK 27 n1 x2.toNatClampNeg hn1 (sx_lt hc3)) d_Tr_isPostRight_38 rfl ?_
      refine sx_sipush (v := 9999) (pc2 := 44) hX d_Tr_isPostRight_41 (by decide) rfl ?_
      refine sx_icmp_ne (tgt := 51) (pc2 := 47) hX d_Tr_isPostRight_44 (by decide) rfl (fun hc17 => ?_) (fun hc17 => ?_)
      · replace h := sx_f h hc17
        refine sx_iconst (v := 0) (pc2 := 52) hX d_Tr_isPostRight_51 (by decide) rfl ?_
        refine sx_sub [] [] rfl ?_
        exact g_Tr_isPostRight_b52 hX hK hE   0 _ _ h
      · replace h := sx_t h hc17
        refine sx_iconst (v := 1) (pc2 := 48) hX d_Tr_isPostRight_47 (by decide) rfl ?_
        refine sx_goto (tgt := 52) hX d_Tr_isPostRight_48 (by decide) ?_
        refine sx_sub [] [] rfl ?_
        exact g_Tr_isPostRight_b52 hX hK hE   1 _ _ h
  · replace h := sx_f h hc5
    refine sx_iconst (v := 0) (pc2 := 24) hX d_Tr_isPostRight_23 (by decide) rfl ?_
    exact sx_zret hX hE (by decide) h d_Tr_isPostRight_24
theorem cl_Tr_61 {X : sx_T} {K : sx_K} {cc : ByteArray} {nL : Nat} {ret : Option FieldType} {rm : Room} {l : Launch} {pc pc2 : Nat} {lv : List (Nat × Value)} {st : List Value} {σ : sx_M} {τ : sx_L} {n1 : Nat} {x2 : Int32} {Q : Int32 → sx_M → Prop} (hX : sx_C X K cc nL "SensorTree$Truth" ret rm l) (hK : kx_C K) (h : wp_Tr_isPostRight n1 x2 σ Q) (hn1 : n1 < 25) (hR : rm_Tr_isPostRight.frames + 1 ≤ rm.frames ∧ 8 + (5 + 11) + rm_Tr_isPostRight.locals ≤ rm.locals) (hst : (st.map fun v => v.category).sum ≤ 8) (hd : decode cc pc = .ok (.invokevirtual 61, 3)) (hpc : pc + 3 = pc2) (kk : ∀ (r : Int32) (σ2 : sx_M) (τ2 : sx_L), Q r σ2 → sx_G X K nL pc2 lv (.int r :: st) (sx_H K σ2 τ2)) : sx_G X K nL pc lv (.int x2 :: .ref (K.2.2.1 16 n1 0) :: .ref (K.2.2.1 32 0 0) :: st) (sx_H K σ τ) :=
  sx_callVi (Q := fun r σ _ => Q r σ) (As := [.ref (K.2.2.1 16 n1 0), .int x2]) hX (c_Tr_isPostRight hK n1 x2 σ τ Q hn1 h) (hK 32 0 0 (by decide) (by decide)) rfl rfl lk_243 ls_34 hy_Tr_isPostRight lk_241 lk_240 lk_242 ⟨rfl, rfl⟩ hR hst rfl hd hpc kk
def y_Tr_isRight : MethodName := ⟨"SensorTree$Truth", "isRight", "(LSensorTree$Net;)Z"⟩
theorem hy_Tr_isRight : y_Tr_isRight.cls ≠ "java/lang/invoke/MethodHandle" ∧ y_Tr_isRight.cls ≠ "java/lang/invoke/VarHandle" ∧ (parseMethodDescriptor y_Tr_isRight.desc).map (fun d => d.parameters.length) = some 1 := by decide +kernel
theorem d_Tr_isRight_0 : decode prog_11_method_5_code 0 = .ok (.iconst 1, 1) := by decide +kernel
theorem d_Tr_isRight_1 : decode prog_11_method_5_code 1 = .ok (.istore_n 2, 1) := by decide +kernel
theorem d_Tr_isRight_2 : decode prog_11_method_5_code 2 = .ok (.iload_n 2, 1) := by decide +kernel
theorem d_Tr_isRight_3 : decode prog_11_method_5_code 3 = .ok (.aload_n 1, 1) := by decide +kernel
theorem d_Tr_isRight_4 : decode prog_11_method_5_code 4 = .ok (.getfield 15, 3) := by decide +kernel
theorem d_Tr_isRight_7 : decode prog_11_method_5_code 7 = .ok (.getfield 21, 3) := by decide +kernel
theorem d_Tr_isRight_10 : decode prog_11_method_5_code 10 = .ok (.if_icmp .ge 32, 3) := by decide +kernel
theorem d_Tr_isRight_13 : decode prog_11_method_5_code 13 = .ok (.aload_n 1, 1) := by decide +kernel
theorem d_Tr_isRight_14 : decode prog_11_method_5_code 14 = .ok (.getfield 50, 3) := by decide +kernel
theorem d_Tr_isRight_17 : decode prog_11_method_5_code 17 = .ok (.iload_n 2, 1) := by decide +kernel
theorem d_Tr_isRight_18 : decode prog_11_method_5_code 18 = .ok (.aaload, 1) := by decide +kernel
theorem d_Tr_isRight_19 : decode prog_11_method_5_code 19 = .ok (.getfield 53, 3) := by decide +kernel
theorem d_Tr_isRight_22 : decode prog_11_method_5_code 22 = .ok (.ifCond .eq 14, 3) := by decide +kernel
theorem d_Tr_isRight_25 : decode prog_11_method_5_code 25 = .ok (.aload_n 0, 1) := by decide +kernel
theorem d_Tr_isRight_26 : decode prog_11_method_5_code 26 = .ok (.aload_n 1, 1) := by decide +kernel
theorem d_Tr_isRight_27 : decode prog_11_method_5_code 27 = .ok (.iload_n 2, 1) := by decide +kernel
theorem d_Tr_isRight_28 : decode prog_11_method_5_code 28 = .ok (.invokevirtual 61, 3) := by decide +kernel
theorem d_Tr_isRight_31 : decode prog_11_method_5_code 31 = .ok (.ifCond .ne 5, 3) := by decide +kernel
theorem d_Tr_isRight_34 : decode prog_11_method_5_code 34 = .ok (.iconst 0, 1) := by decide +kernel
theorem d_Tr_isRight_35 : decode prog_11_method_5_code 35 = .ok (.ireturn, 1) := by decide +kernel
theorem d_Tr_isRight_36 : decode prog_11_method_5_code 36 = .ok (.iinc 2 1, 3) := by decide +kernel
theorem d_Tr_isRight_39 : decode prog_11_method_5_code 39 = .ok (.goto (-37), 3) := by decide +kernel
theorem d_Tr_isRight_42 : decode prog_11_method_5_code 42 = .ok (.iconst 1, 1) := by decide +kernel
theorem d_Tr_isRight_43 : decode prog_11_method_5_code 43 = .ok (.ireturn, 1) := by decide +kernel
def wp_Tr_isRight_b36  (k2 : Nat → Int32 → sx_M → Prop) (Q : Int32 → sx_M → Prop) (v1n : Nat) (v2 : Int32) (σ : sx_M) : Prop := k2 v1n (v2 + 1) σ
def wp_Tr_isRight_b2   (Q : Int32 → sx_M → Prop) : Nat → Nat → Int32 → sx_M → Prop
  | 0, _, _, _ => False
  | f + 1, v1n, v2, σ => if σ 8 0 0 0 ≤ v2 then (Q 1 σ) else (vp_in v2 7 ∧ (if σ 27 v1n v2.toNatClampNeg 0 = 0 then (wp_Tr_isRight_b36 (wp_Tr_isRight_b2 Q f) Q v1n v2 σ) else (wp_Tr_isPostRight v1n v2 σ (fun r4 σ4 => if r4 = 0 then (Q 0 σ4) else (wp_Tr_isRight_b36 (wp_Tr_isRight_b2 Q f) Q v1n v2 σ4)))))
def wp_Tr_isRight (n1 : Nat) (σ : sx_M) (Q : Int32 → sx_M → Prop) : Prop := ∃ f2, wp_Tr_isRight_b2 Q f2 n1 1 σ
abbrev rm_Tr_isRight : Room := { frames := 3, cells := 0, slots := 0, locals := 69 }
set_option maxRecDepth 100000 in
set_option maxHeartbeats 4000000 in
theorem g_Tr_isRight_b36 {l : Launch} {K : sx_K} {X : sx_T}  {k2 : Nat → Int32 → sx_M → Prop} {Q : Int32 → sx_M → Prop} (hX : sx_C X K prog_11_method_5_code 3 "SensorTree$Truth" (some .boolean) rm_Tr_isRight l) (hK : kx_C K) (hE : sx_E X K (sx_Qi K (fun r σ _ => Q r σ)))  (hk2 : ∀ (v1n : Nat) (v2 : Int32) (σ : sx_M) (τ : sx_L) (hv1n : v1n < 25), k2 v1n v2 σ → sx_G X K 3 2 [(0, .ref (K.2.2.1 32 0 0)), (1, .ref (K.2.2.1 16 v1n 0)), (2, .int v2)] [] (sx_H K σ τ)) (v1n : Nat) (v2 : Int32) (σ : sx_M) (τ : sx_L) (hv1n : v1n < 25) (h : wp_Tr_isRight_b36 k2 Q  v1n v2 σ) : sx_G X K 3 36 [(0, .ref (K.2.2.1 32 0 0)), (1, .ref (K.2.2.1 16 v1n 0)), (2, .int v2)] [] (sx_H K σ τ) := by
  unfold wp_Tr_isRight_b36 at h
  refine sx_iinc (pc2 := 39) hX 2 _ [(0, .ref (K.2.2.1 32 0 0)), (1, .ref (K.2.2.1 16 v1n 0)), (2, .int (v2 + 1))] [1, 2, 0] d_Tr_isRight_36 rfl (v2 + 1) rfl (by decide) rfl rfl rfl ?_
  refine sx_goto (tgt := 2) hX d_Tr_isRight_39 (by decide) ?_
  exact hk2 v1n (v2 + 1) _ _ hv1n h
set_option maxRecDepth 100000 in
set_option maxHeartbeats 4000000 in
theorem g_Tr_isRight_b2 {l : Launch} {K : sx_K} {X : sx_T}   {Q : Int32 → sx_M → Prop} (hX : sx_C X K prog_11_method_5_code 3 "SensorTree$Truth" (some .boolean) rm_Tr_isRight l) (hK : kx_C K) (hE : sx_E X K (sx_Qi K (fun r σ _ => Q r σ)))  : ∀ (f : Nat) (v1n : Nat) (v2 : Int32) (σ : sx_M) (τ : sx_L) (hv1n : v1n < 25), wp_Tr_isRight_b2 Q f v1n v2 σ → sx_G X K 3 2 [(0, .ref (K.2.2.1 32 0 0)), (1, .ref (K.2.2.1 16 v1n 0)), (2, .int v2)] [] (sx_H K σ τ) := by
  intro f
  induction f with
  | zero => intro v1n v2 σ τ hv1n h; exact (show False from h).elim
  | succ f ih =>
    intro v1n v2 σ τ hv1n h
    rw [wp_Tr_isRight_b2] at h
    refine sx_iload_n (pc2 := 3) hX 2 d_Tr_isRight_2 rfl rfl rfl ?_
    refine sx_aload_n (pc2 := 4) hX 1 d_Tr_isRight_3 rfl rfl rfl ?_
    refine fg_Tr_15 (pc2 := 7) hX (hK 16 v1n 0 hv1n (by decide)) d_Tr_isRight_4 rfl ?_
    refine fg_Tr_21 (pc2 := 10) hX (hK 8 0 0 (by decide) (by decide)) d_Tr_isRight_7 rfl ?_
    refine sx_icmp_ge (tgt := 42) (pc2 := 13) hX d_Tr_isRight_10 (by decide) rfl (fun hc1 => ?_) (fun hc1 => ?_)
    · replace h := sx_t h hc1
      refine sx_iconst (v := 1) (pc2 := 43) hX d_Tr_isRight_42 (by decide) rfl ?_
      exact sx_zret hX hE (by decide) h d_Tr_isRight_43
    · replace h := sx_f h hc1
      refine sx_aload_n (pc2 := 14) hX 1 d_Tr_isRight_13 rfl rfl rfl ?_
      refine fg_Tr_50 (pc2 := 17) hX (hK 16 v1n 0 hv1n (by decide)) d_Tr_isRight_14 rfl ?_
      refine sx_iload_n (pc2 := 18) hX 2 d_Tr_isRight_17 rfl rfl rfl ?_
      obtain ⟨hc2, h⟩ := h
      refine sx_aald (a := K.2.2.1 27 v1n v2.toNatClampNeg) (pc2 := 19) hX (hK 17 v1n 0 hv1n (by decide)) 4 rfl rfl rfl hc2 d_Tr_isRight_18 rfl ?_
      refine fg_Tr_53 (pc2 := 22) hX (hK 27 v1n v2.toNatClampNeg hv1n (sx_lt hc2)) d_Tr_isRight_19 rfl ?_
      refine sx_if_eq (tgt := 36) (pc2 := 25) hX d_Tr_isRight_22 (by decide) rfl (fun hc3 => ?_) (fun hc3 => ?_)
      · replace h := sx_t h hc3
        exact g_Tr_isRight_b36 hX hK hE  ih v1n v2 _ _ hv1n h
      · replace h := sx_f h hc3
        refine sx_aload_n (pc2 := 26) hX 0 d_Tr_isRight_25 rfl rfl rfl ?_
        refine sx_aload_n (pc2 := 27) hX 1 d_Tr_isRight_26 rfl rfl rfl ?_
        refine sx_iload_n (pc2 := 28) hX 2 d_Tr_isRight_27 rfl rfl rfl ?_
        refine cl_Tr_61 (pc2 := 31) hX hK h hv1n ⟨Nat.le_of_ble_eq_true rfl, Nat.le_of_ble_eq_true rfl⟩ (Nat.le_of_ble_eq_true rfl) d_Tr_isRight_28 rfl (fun r4 σ4 τ4 h => ?_)
        refine sx_if_ne (tgt := 36) (pc2 := 34) hX d_Tr_isRight_31 (by decide) rfl (fun hc5 => ?_) (fun hc5 => ?_)
        · replace h := sx_f h hc5
          exact g_Tr_isRight_b36 hX hK hE  ih v1n v2 _ _ hv1n h
        · replace h := sx_t h hc5
          refine sx_iconst (v := 0) (pc2 := 35) hX d_Tr_isRight_34 (by decide) rfl ?_
          exact sx_zret hX hE (by decide) h d_Tr_isRight_35
set_option maxRecDepth 100000 in
set_option maxHeartbeats 4000000 in
theorem c_Tr_isRight {l : Launch} {K : sx_K} (hK : kx_C K) (n1 : Nat) (σ : sx_M) (τ : sx_L) (Q : Int32 → sx_M → Prop) (hn1 : n1 < 25) (h : wp_Tr_isRight n1 σ Q) : Met l y_Tr_isRight (sx_wd y_Tr_isRight prog_11_method_5_code 3 (some .boolean)) rm_Tr_isRight (sx_Pc K [.ref (K.2.2.1 32 0 0), .ref (K.2.2.1 16 n1 0)] σ τ) (sx_Qi K (fun r σ _ => Q r σ)) 0 0 (sx_A K) := by
  refine sx_met (by decide) (Nat.le_of_ble_eq_true rfl) (fun X hX hE => ?_)
  replace hX : sx_C X K prog_11_method_5_code 3 "SensorTree$Truth" (some .boolean) rm_Tr_isRight l := hX
  show sx_G X K 3 0 [(0, .ref (K.2.2.1 32 0 0)), (1, .ref (K.2.2.1 16 n1 0))] [] (sx_H K σ τ)
  unfold wp_Tr_isRight at h
  refine sx_iconst (v := 1) (pc2 := 1) hX d_Tr_isRight_0 (by decide) rfl ?_
  refine sx_istore_n (pc2 := 2) hX _ [(0, .ref (K.2.2.1 32 0 0)), (1, .ref (K.2.2.1 16 n1 0)), (2, .int 1)] [1, 2, 0] d_Tr_isRight_1 rfl (by decide) rfl rfl rfl ?_
  obtain ⟨f2, h⟩ := h
  exact g_Tr_isRight_b2 hX hK hE   f2 n1 1 _ _ hn1 h
theorem cl_St_228 {X : sx_T} {K : sx_K} {cc : ByteArray} {nL : Nat} {ret : Option FieldType} {rm : Room} {l : Launch} {pc pc2 : Nat} {lv : List (Nat × Value)} {st : List Value} {σ : sx_M} {τ : sx_L} {n1 : Nat} {Q : Int32 → sx_M → Prop} (hX : sx_C X K cc nL "SensorTree" ret rm l) (hK : kx_C K) (h : wp_Tr_isRight n1 σ Q) (hn1 : n1 < 25) (hR : rm_Tr_isRight.frames + 1 ≤ rm.frames ∧ 8 + (3 + 11) + rm_Tr_isRight.locals ≤ rm.locals) (hst : (st.map fun v => v.category).sum ≤ 8) (hd : decode cc pc = .ok (.invokevirtual 228, 3)) (hpc : pc + 3 = pc2) (kk : ∀ (r : Int32) (σ2 : sx_M) (τ2 : sx_L), Q r σ2 → sx_G X K nL pc2 lv (.int r :: st) (sx_H K σ2 τ2)) : sx_G X K nL pc lv (.ref (K.2.2.1 16 n1 0) :: .ref (K.2.2.1 32 0 0) :: st) (sx_H K σ τ) :=
  sx_callVi (Q := fun r σ _ => Q r σ) (As := [.ref (K.2.2.1 16 n1 0)]) hX (c_Tr_isRight hK n1 σ τ Q hn1 h) (hK 32 0 0 (by decide) (by decide)) rfl rfl lk_318 lk_319 hy_Tr_isRight lk_316 lk_240 lk_317 ⟨rfl, rfl⟩ hR hst rfl hd hpc kk
def y_St_feed : MethodName := ⟨"SensorTree", "feed", "(IIIII)I"⟩
theorem hy_St_feed : y_St_feed.cls ≠ "java/lang/invoke/MethodHandle" ∧ y_St_feed.cls ≠ "java/lang/invoke/VarHandle" ∧ (parseMethodDescriptor y_St_feed.desc).map (fun d => d.parameters.length) = some 5 := by decide +kernel
theorem d_St_feed_0 : decode prog_1_method_2_code 0 = .ok (.aload_n 0, 1) := by decide +kernel
theorem d_St_feed_1 : decode prog_1_method_2_code 1 = .ok (.getfield 10, 3) := by decide +kernel
theorem d_St_feed_4 : decode prog_1_method_2_code 4 = .ok (.getfield 89, 3) := by decide +kernel
theorem d_St_feed_7 : decode prog_1_method_2_code 7 = .ok (.bipush 20, 2) := by decide +kernel
theorem d_St_feed_9 : decode prog_1_method_2_code 9 = .ok (.iadd, 1) := by decide +kernel
theorem d_St_feed_10 : decode prog_1_method_2_code 10 = .ok (.sipush 2000, 3) := by decide +kernel
theorem d_St_feed_13 : decode prog_1_method_2_code 13 = .ok (.if_icmp .le 5, 3) := by decide +kernel
theorem d_St_feed_16 : decode prog_1_method_2_code 16 = .ok (.iconst (-1), 1) := by decide +kernel
theorem d_St_feed_17 : decode prog_1_method_2_code 17 = .ok (.ireturn, 1) := by decide +kernel
theorem d_St_feed_18 : decode prog_1_method_2_code 18 = .ok (.aload_n 0, 1) := by decide +kernel
theorem d_St_feed_19 : decode prog_1_method_2_code 19 = .ok (.getfield 10, 3) := by decide +kernel
theorem d_St_feed_22 : decode prog_1_method_2_code 22 = .ok (.iload_n 1, 1) := by decide +kernel
theorem d_St_feed_23 : decode prog_1_method_2_code 23 = .ok (.invokevirtual 92, 3) := by decide +kernel
theorem d_St_feed_26 : decode prog_1_method_2_code 26 = .ok (.aload_n 0, 1) := by decide +kernel
theorem d_St_feed_27 : decode prog_1_method_2_code 27 = .ok (.getfield 10, 3) := by decide +kernel
theorem d_St_feed_30 : decode prog_1_method_2_code 30 = .ok (.iload_n 2, 1) := by decide +kernel
theorem d_St_feed_31 : decode prog_1_method_2_code 31 = .ok (.invokevirtual 92, 3) := by decide +kernel
theorem d_St_feed_34 : decode prog_1_method_2_code 34 = .ok (.aload_n 0, 1) := by decide +kernel
theorem d_St_feed_35 : decode prog_1_method_2_code 35 = .ok (.getfield 10, 3) := by decide +kernel
theorem d_St_feed_38 : decode prog_1_method_2_code 38 = .ok (.iload_n 3, 1) := by decide +kernel
theorem d_St_feed_39 : decode prog_1_method_2_code 39 = .ok (.invokevirtual 92, 3) := by decide +kernel
theorem d_St_feed_42 : decode prog_1_method_2_code 42 = .ok (.aload_n 0, 1) := by decide +kernel
theorem d_St_feed_43 : decode prog_1_method_2_code 43 = .ok (.getfield 10, 3) := by decide +kernel
theorem d_St_feed_46 : decode prog_1_method_2_code 46 = .ok (.iload 4, 2) := by decide +kernel
theorem d_St_feed_48 : decode prog_1_method_2_code 48 = .ok (.invokevirtual 92, 3) := by decide +kernel
theorem d_St_feed_51 : decode prog_1_method_2_code 51 = .ok (.aload_n 0, 1) := by decide +kernel
theorem d_St_feed_52 : decode prog_1_method_2_code 52 = .ok (.getfield 10, 3) := by decide +kernel
theorem d_St_feed_55 : decode prog_1_method_2_code 55 = .ok (.iload 5, 2) := by decide +kernel
theorem d_St_feed_57 : decode prog_1_method_2_code 57 = .ok (.invokevirtual 92, 3) := by decide +kernel
theorem d_St_feed_60 : decode prog_1_method_2_code 60 = .ok (.aload_n 0, 1) := by decide +kernel
theorem d_St_feed_61 : decode prog_1_method_2_code 61 = .ok (.getfield 10, 3) := by decide +kernel
theorem d_St_feed_64 : decode prog_1_method_2_code 64 = .ok (.getfield 89, 3) := by decide +kernel
theorem d_St_feed_67 : decode prog_1_method_2_code 67 = .ok (.ireturn, 1) := by decide +kernel
def wp_St_feed (x1 : Int32) (x2 : Int32) (x3 : Int32) (x4 : Int32) (x5 : Int32) (σ : sx_M) (Q : Int32 → sx_M → Prop) : Prop := if (σ 1 0 0 1) + 20 ≤ 2000 then (wp_Ta_putFour x1 σ (fun σ2 => wp_Ta_putFour x2 σ2 (fun σ3 => wp_Ta_putFour x3 σ3 (fun σ4 => wp_Ta_putFour x4 σ4 (fun σ5 => wp_Ta_putFour x5 σ5 (fun σ6 => Q (σ6 1 0 0 1) σ6)))))) else (Q (-1) σ)
abbrev rm_St_feed : Room := { frames := 1, cells := 0, slots := 0, locals := 22 }
set_option maxRecDepth 100000 in
set_option maxHeartbeats 4000000 in
theorem c_St_feed {l : Launch} {K : sx_K} (hK : kx_C K) (x1 : Int32) (x2 : Int32) (x3 : Int32) (x4 : Int32) (x5 : Int32) (σ : sx_M) (τ : sx_L) (Q : Int32 → sx_M → Prop)  (h : wp_St_feed x1 x2 x3 x4 x5 σ Q) : Met l y_St_feed (sx_wd y_St_feed prog_1_method_2_code 6 (some .int)) rm_St_feed (sx_Pc K [.ref (K.2.2.1 0 0 0), .int x1, .int x2, .int x3, .int x4, .int x5] σ τ) (sx_Qi K (fun r σ _ => Q r σ)) 0 0 (sx_A K) := by
  refine sx_met (by decide) (Nat.le_of_ble_eq_true rfl) (fun X hX hE => ?_)
  replace hX : sx_C X K prog_1_method_2_code 6 "SensorTree" (some .int) rm_St_feed l := hX
  show sx_G X K 6 0 [(0, .ref (K.2.2.1 0 0 0)), (1, .int x1), (2, .int x2), (3, .int x3), (4, .int x4), (5, .int x5)] [] (sx_H K σ τ)
  unfold wp_St_feed at h
  refine sx_aload_n (pc2 := 1) hX 0 d_St_feed_0 rfl rfl rfl ?_
  refine fg_St_10 (pc2 := 4) hX (hK 0 0 0 (by decide) (by decide)) d_St_feed_1 rfl ?_
  refine fg_St_89 (pc2 := 7) hX (hK 1 0 0 (by decide) (by decide)) d_St_feed_4 rfl ?_
  refine sx_bipush (v := 20) (pc2 := 9) hX d_St_feed_7 (by decide) rfl ?_
  refine sx_iadd (pc2 := 10) hX d_St_feed_9 rfl ?_
  refine sx_sipush (v := 2000) (pc2 := 13) hX d_St_feed_10 (by decide) rfl ?_
  refine sx_icmp_le (tgt := 18) (pc2 := 16) hX d_St_feed_13 (by decide) rfl (fun hc1 => ?_) (fun hc1 => ?_)
  · replace h := sx_t h hc1
    refine sx_aload_n (pc2 := 19) hX 0 d_St_feed_18 rfl rfl rfl ?_
    refine fg_St_10 (pc2 := 22) hX (hK 0 0 0 (by decide) (by decide)) d_St_feed_19 rfl ?_
    refine sx_iload_n (pc2 := 23) hX 1 d_St_feed_22 rfl rfl rfl ?_
    refine cl_St_92 (pc2 := 26) hX hK h  ⟨Nat.le_of_ble_eq_true rfl, Nat.le_of_ble_eq_true rfl⟩ (Nat.le_of_ble_eq_true rfl) d_St_feed_23 rfl (fun σ2 τ2 h => ?_)
    refine sx_aload_n (pc2 := 27) hX 0 d_St_feed_26 rfl rfl rfl ?_
    refine fg_St_10 (pc2 := 30) hX (hK 0 0 0 (by decide) (by decide)) d_St_feed_27 rfl ?_
    refine sx_iload_n (pc2 := 31) hX 2 d_St_feed_30 rfl rfl rfl ?_
    refine cl_St_92 (pc2 := 34) hX hK h  ⟨Nat.le_of_ble_eq_true rfl, Nat.le_of_ble_eq_true rfl⟩ (Nat.le_of_ble_eq_true rfl) d_St_feed_31 rfl (fun σ3 τ3 h => ?_)
    refine sx_aload_n (pc2 := 35) hX 0 d_St_feed_34 rfl rfl rfl ?_
    refine fg_St_10 (pc2 := 38) hX (hK 0 0 0 (by decide) (by decide)) d_St_feed_35 rfl ?_
    refine sx_iload_n (pc2 := 39) hX 3 d_St_feed_38 rfl rfl rfl ?_
    refine cl_St_92 (pc2 := 42) hX hK h  ⟨Nat.le_of_ble_eq_true rfl, Nat.le_of_ble_eq_true rfl⟩ (Nat.le_of_ble_eq_true rfl) d_St_feed_39 rfl (fun σ4 τ4 h => ?_)
    refine sx_aload_n (pc2 := 43) hX 0 d_St_feed_42 rfl rfl rfl ?_
    refine fg_St_10 (pc2 := 46) hX (hK 0 0 0 (by decide) (by decide)) d_St_feed_43 rfl ?_
    refine sx_iload (pc2 := 48) hX 4 d_St_feed_46 rfl rfl ?_
    refine cl_St_92 (pc2 := 51) hX hK h  ⟨Nat.le_of_ble_eq_true rfl, Nat.le_of_ble_eq_true rfl⟩ (Nat.le_of_ble_eq_true rfl) d_St_feed_48 rfl (fun σ5 τ5 h => ?_)
    refine sx_aload_n (pc2 := 52) hX 0 d_St_feed_51 rfl rfl rfl ?_
    refine fg_St_10 (pc2 := 55) hX (hK 0 0 0 (by decide) (by decide)) d_St_feed_52 rfl ?_
    refine sx_iload (pc2 := 57) hX 5 d_St_feed_55 rfl rfl ?_
    refine cl_St_92 (pc2 := 60) hX hK h  ⟨Nat.le_of_ble_eq_true rfl, Nat.le_of_ble_eq_true rfl⟩ (Nat.le_of_ble_eq_true rfl) d_St_feed_57 rfl (fun σ6 τ6 h => ?_)
    refine sx_aload_n (pc2 := 61) hX 0 d_St_feed_60 rfl rfl rfl ?_
    refine fg_St_10 (pc2 := 64) hX (hK 0 0 0 (by decide) (by decide)) d_St_feed_61 rfl ?_
    refine fg_St_89 (pc2 := 67) hX (hK 1 0 0 (by decide) (by decide)) d_St_feed_64 rfl ?_
    exact sx_iret hX hE h d_St_feed_67
  · replace h := sx_f h hc1
    refine sx_iconst (v := (-1)) (pc2 := 17) hX d_St_feed_16 (by decide) rfl ?_
    exact sx_iret hX hE h d_St_feed_17
def y_St_back : MethodName := ⟨"SensorTree", "back", "(I)I"⟩
theorem hy_St_back : y_St_back.cls ≠ "java/lang/invoke/MethodHandle" ∧ y_St_back.cls ≠ "java/lang/invoke/VarHandle" ∧ (parseMethodDescriptor y_St_back.desc).map (fun d => d.parameters.length) = some 1 := by decide +kernel
theorem d_St_back_0 : decode prog_1_method_3_code 0 = .ok (.iload_n 1, 1) := by decide +kernel
theorem d_St_back_1 : decode prog_1_method_3_code 1 = .ok (.ifCond .lt 14, 3) := by decide +kernel
theorem d_St_back_4 : decode prog_1_method_3_code 4 = .ok (.iload_n 1, 1) := by decide +kernel
theorem d_St_back_5 : decode prog_1_method_3_code 5 = .ok (.aload_n 0, 1) := by decide +kernel
theorem d_St_back_6 : decode prog_1_method_3_code 6 = .ok (.getfield 10, 3) := by decide +kernel
theorem d_St_back_9 : decode prog_1_method_3_code 9 = .ok (.getfield 89, 3) := by decide +kernel
theorem d_St_back_12 : decode prog_1_method_3_code 12 = .ok (.if_icmp .le 5, 3) := by decide +kernel
theorem d_St_back_15 : decode prog_1_method_3_code 15 = .ok (.iconst (-1), 1) := by decide +kernel
theorem d_St_back_16 : decode prog_1_method_3_code 16 = .ok (.ireturn, 1) := by decide +kernel
theorem d_St_back_17 : decode prog_1_method_3_code 17 = .ok (.aload_n 0, 1) := by decide +kernel
theorem d_St_back_18 : decode prog_1_method_3_code 18 = .ok (.getfield 10, 3) := by decide +kernel
theorem d_St_back_21 : decode prog_1_method_3_code 21 = .ok (.dup, 1) := by decide +kernel
theorem d_St_back_22 : decode prog_1_method_3_code 22 = .ok (.getfield 89, 3) := by decide +kernel
theorem d_St_back_25 : decode prog_1_method_3_code 25 = .ok (.iload_n 1, 1) := by decide +kernel
theorem d_St_back_26 : decode prog_1_method_3_code 26 = .ok (.isub, 1) := by decide +kernel
theorem d_St_back_27 : decode prog_1_method_3_code 27 = .ok (.putfield 89, 3) := by decide +kernel
theorem d_St_back_30 : decode prog_1_method_3_code 30 = .ok (.aload_n 0, 1) := by decide +kernel
theorem d_St_back_31 : decode prog_1_method_3_code 31 = .ok (.getfield 10, 3) := by decide +kernel
theorem d_St_back_34 : decode prog_1_method_3_code 34 = .ok (.getfield 89, 3) := by decide +kernel
theorem d_St_back_37 : decode prog_1_method_3_code 37 = .ok (.ireturn, 1) := by decide +kernel
def wp_St_back_b15   (Q : Int32 → sx_M → Prop)  (σ : sx_M) : Prop := Q (-1) σ
def wp_St_back (x1 : Int32) (σ : sx_M) (Q : Int32 → sx_M → Prop) : Prop := if x1 < 0 then (wp_St_back_b15 Q σ) else (if x1 ≤ σ 1 0 0 1 then (∀ σ3 : sx_M, σ3 = sx_u σ 1 0 0 1 ((σ 1 0 0 1) - x1) → (Q (σ3 1 0 0 1) σ3)) else (wp_St_back_b15 Q σ))
abbrev rm_St_back : Room := { frames := 0, cells := 0, slots := 0, locals := 0 }
set_option maxRecDepth 100000 in
set_option maxHeartbeats 4000000 in
theorem g_St_back_b15 {l : Launch} {K : sx_K} {X : sx_T}   {Q : Int32 → sx_M → Prop} (hX : sx_C X K prog_1_method_3_code 2 "SensorTree" (some .int) rm_St_back l) (hK : kx_C K) (hE : sx_E X K (sx_Qi K (fun r σ _ => Q r σ)))   (σ : sx_M) (τ : sx_L)  (h : wp_St_back_b15 Q  σ) : sx_G X K 2 15 [] [] (sx_H K σ τ) := by
  unfold wp_St_back_b15 at h
  refine sx_iconst (v := (-1)) (pc2 := 16) hX d_St_back_15 (by decide) rfl ?_
  exact sx_iret hX hE h d_St_back_16
set_option maxRecDepth 100000 in
set_option maxHeartbeats 4000000 in
theorem c_St_back {l : Launch} {K : sx_K} (hK : kx_C K) (x1 : Int32) (σ : sx_M) (τ : sx_L) (Q : Int32 → sx_M → Prop)  (h : wp_St_back x1 σ Q) : Met l y_St_back (sx_wd y_St_back prog_1_method_3_code 2 (some .int)) rm_St_back (sx_Pc K [.ref (K.2.2.1 0 0 0), .int x1] σ τ) (sx_Qi K (fun r σ _ => Q r σ)) 0 0 (sx_A K) := by
  refine sx_met (by decide) (Nat.le_of_ble_eq_true rfl) (fun X hX hE => ?_)
  replace hX : sx_C X K prog_1_method_3_code 2 "SensorTree" (some .int) rm_St_back l := hX
  show sx_G X K 2 0 [(0, .ref (K.2.2.1 0 0 0)), (1, .int x1)] [] (sx_H K σ τ)
  unfold wp_St_back at h
  refine sx_iload_n (pc2 := 1) hX 1 d_St_back_0 rfl rfl rfl ?_
  refine sx_if_lt (tgt := 15) (pc2 := 4) hX d_St_back_1 (by decide) rfl (fun hc1 => ?_) (fun hc1 => ?_)
  · replace h := sx_t h hc1
    refine sx_sub [] [] rfl ?_
    exact g_St_back_b15 hX hK hE   _ _ h
  · replace h := sx_f h hc1
    refine sx_iload_n (pc2 := 5) hX 1 d_St_back_4 rfl rfl rfl ?_
    refine sx_aload_n (pc2 := 6) hX 0 d_St_back_5 rfl rfl rfl ?_
    refine fg_St_10 (pc2 := 9) hX (hK 0 0 0 (by decide) (by decide)) d_St_back_6 rfl ?_
    refine fg_St_89 (pc2 := 12) hX (hK 1 0 0 (by decide) (by decide)) d_St_back_9 rfl ?_
    refine sx_icmp_le (tgt := 17) (pc2 := 15) hX d_St_back_12 (by decide) rfl (fun hc2 => ?_) (fun hc2 => ?_)
    · replace h := sx_t h hc2
      refine sx_aload_n (pc2 := 18) hX 0 d_St_back_17 rfl rfl rfl ?_
      refine fg_St_10 (pc2 := 21) hX (hK 0 0 0 (by decide) (by decide)) d_St_back_18 rfl ?_
      refine sx_dup (pc2 := 22) hX d_St_back_21 rfl rfl ?_
      refine fg_St_89 (pc2 := 25) hX (hK 1 0 0 (by decide) (by decide)) d_St_back_22 rfl ?_
      refine sx_iload_n (pc2 := 26) hX 1 d_St_back_25 rfl rfl rfl ?_
      refine sx_isub (pc2 := 27) hX d_St_back_26 rfl ?_
      refine fp_St_89 (pc2 := 30) hX (hK 1 0 0 (by decide) (by decide)) d_St_back_27 rfl ?_
      refine sx_nm (fun σ3 e3 => ?_)
      replace h := h σ3 e3
      refine sx_aload_n (pc2 := 31) hX 0 d_St_back_30 rfl rfl rfl ?_
      refine fg_St_10 (pc2 := 34) hX (hK 0 0 0 (by decide) (by decide)) d_St_back_31 rfl ?_
      refine fg_St_89 (pc2 := 37) hX (hK 1 0 0 (by decide) (by decide)) d_St_back_34 rfl ?_
      exact sx_iret hX hE h d_St_back_37
    · replace h := sx_f h hc2
      refine sx_sub [] [] rfl ?_
      exact g_St_back_b15 hX hK hE   _ _ h
def y_St_forgetPast : MethodName := ⟨"SensorTree", "forgetPast", "()V"⟩
theorem hy_St_forgetPast : y_St_forgetPast.cls ≠ "java/lang/invoke/MethodHandle" ∧ y_St_forgetPast.cls ≠ "java/lang/invoke/VarHandle" ∧ (parseMethodDescriptor y_St_forgetPast.desc).map (fun d => d.parameters.length) = some 0 := by decide +kernel
theorem d_St_forgetPast_0 : decode prog_1_method_44_code 0 = .ok (.aload_n 0, 1) := by decide +kernel
theorem d_St_forgetPast_1 : decode prog_1_method_44_code 1 = .ok (.iconst 0, 1) := by decide +kernel
theorem d_St_forgetPast_2 : decode prog_1_method_44_code 2 = .ok (.putfield 72, 3) := by decide +kernel
theorem d_St_forgetPast_5 : decode prog_1_method_44_code 5 = .ok (.aload_n 0, 1) := by decide +kernel
theorem d_St_forgetPast_6 : decode prog_1_method_44_code 6 = .ok (.iconst 0, 1) := by decide +kernel
theorem d_St_forgetPast_7 : decode prog_1_method_44_code 7 = .ok (.putfield 76, 3) := by decide +kernel
theorem d_St_forgetPast_10 : decode prog_1_method_44_code 10 = .ok (.return_, 1) := by decide +kernel
def wp_St_forgetPast  (σ : sx_M) (Q : sx_M → Prop) : Prop := ∀ σ1 : sx_M, σ1 = sx_u σ 0 0 0 10 0 → (∀ σ2 : sx_M, σ2 = sx_u σ1 0 0 0 11 0 → (Q σ2))
abbrev rm_St_forgetPast : Room := { frames := 0, cells := 0, slots := 0, locals := 0 }
set_option maxRecDepth 100000 in
set_option maxHeartbeats 4000000 in
theorem c_St_forgetPast {l : Launch} {K : sx_K} (hK : kx_C K)  (σ : sx_M) (τ : sx_L) (Q : sx_M → Prop)  (h : wp_St_forgetPast σ Q) : Met l y_St_forgetPast (sx_wd y_St_forgetPast prog_1_method_44_code 1 none) rm_St_forgetPast (sx_Pc K [.ref (K.2.2.1 0 0 0)] σ τ) (sx_Qv K (fun σ _ => Q σ)) 0 0 (sx_A K) := by
  refine sx_met (by decide) (Nat.le_of_ble_eq_true rfl) (fun X hX hE => ?_)
  replace hX : sx_C X K prog_1_method_44_code 1 "SensorTree" none rm_St_forgetPast l := hX
  show sx_G X K 1 0 [(0, .ref (K.2.2.1 0 0 0))] [] (sx_H K σ τ)
  unfold wp_St_forgetPast at h
  refine sx_aload_n (pc2 := 1) hX 0 d_St_forgetPast_0 rfl rfl rfl ?_
  refine sx_iconst (v := 0) (pc2 := 2) hX d_St_forgetPast_1 (by decide) rfl ?_
  refine fp_St_72 (pc2 := 5) hX (hK 0 0 0 (by decide) (by decide)) d_St_forgetPast_2 rfl ?_
  refine sx_nm (fun σ1 e1 => ?_)
  replace h := h σ1 e1
  refine sx_aload_n (pc2 := 6) hX 0 d_St_forgetPast_5 rfl rfl rfl ?_
  refine sx_iconst (v := 0) (pc2 := 7) hX d_St_forgetPast_6 (by decide) rfl ?_
  refine fp_St_76 (pc2 := 10) hX (hK 0 0 0 (by decide) (by decide)) d_St_forgetPast_7 rfl ?_
  refine sx_nm (fun σ2 e2 => ?_)
  replace h := h σ2 e2
  exact sx_vret hX hE h d_St_forgetPast_10
theorem cl_St_109 {X : sx_T} {K : sx_K} {cc : ByteArray} {nL : Nat} {ret : Option FieldType} {rm : Room} {l : Launch} {pc pc2 : Nat} {lv : List (Nat × Value)} {st : List Value} {σ : sx_M} {τ : sx_L}  {Q : sx_M → Prop} (hX : sx_C X K cc nL "SensorTree" ret rm l) (hK : kx_C K) (h : wp_St_forgetPast  σ Q)  (hR : rm_St_forgetPast.frames + 1 ≤ rm.frames ∧ 8 + (1 + 11) + rm_St_forgetPast.locals ≤ rm.locals) (hst : (st.map fun v => v.category).sum ≤ 8) (hd : decode cc pc = .ok (.invokevirtual 109, 3)) (hpc : pc + 3 = pc2) (kk : ∀ (σ2 : sx_M) (τ2 : sx_L), Q σ2 → sx_G X K nL pc2 lv (st) (sx_H K σ2 τ2)) : sx_G X K nL pc lv (.ref (K.2.2.1 0 0 0) :: st) (sx_H K σ τ) :=
  sx_callVv (Q := fun σ _ => Q σ) (As := []) hX (c_St_forgetPast hK  σ τ Q  h) (hK 0 0 0 (by decide) (by decide)) rfl rfl lk_263 ls_13 hy_St_forgetPast lk_261 lk_260 lk_262 ⟨rfl, rfl⟩ hR hst rfl hd hpc kk
def y_St_place : MethodName := ⟨"SensorTree", "place", "()I"⟩
theorem hy_St_place : y_St_place.cls ≠ "java/lang/invoke/MethodHandle" ∧ y_St_place.cls ≠ "java/lang/invoke/VarHandle" ∧ (parseMethodDescriptor y_St_place.desc).map (fun d => d.parameters.length) = some 0 := by decide +kernel
theorem d_St_place_0 : decode prog_1_method_5_code 0 = .ok (.aload_n 0, 1) := by decide +kernel
theorem d_St_place_1 : decode prog_1_method_5_code 1 = .ok (.getfield 19, 3) := by decide +kernel
theorem d_St_place_4 : decode prog_1_method_5_code 4 = .ok (.getfield 112, 3) := by decide +kernel
theorem d_St_place_7 : decode prog_1_method_5_code 7 = .ok (.ireturn, 1) := by decide +kernel
def wp_St_place  (σ : sx_M) (Q : Int32 → sx_M → Prop) : Prop := Q (σ 3 0 0 4) σ
abbrev rm_St_place : Room := { frames := 0, cells := 0, slots := 0, locals := 0 }
set_option maxRecDepth 100000 in
set_option maxHeartbeats 4000000 in
theorem c_St_place {l : Launch} {K : sx_K} (hK : kx_C K)  (σ : sx_M) (τ : sx_L) (Q : Int32 → sx_M → Prop)  (h : wp_St_place σ Q) : Met l y_St_place (sx_wd y_St_place prog_1_method_5_code 1 (some .int)) rm_St_place (sx_Pc K [.ref (K.2.2.1 0 0 0)] σ τ) (sx_Qi K (fun r σ _ => Q r σ)) 0 0 (sx_A K) := by
  refine sx_met (by decide) (Nat.le_of_ble_eq_true rfl) (fun X hX hE => ?_)
  replace hX : sx_C X K prog_1_method_5_code 1 "SensorTree" (some .int) rm_St_place l := hX
  show sx_G X K 1 0 [(0, .ref (K.2.2.1 0 0 0))] [] (sx_H K σ τ)
  unfold wp_St_place at h
  refine sx_aload_n (pc2 := 1) hX 0 d_St_place_0 rfl rfl rfl ?_
  refine fg_St_19 (pc2 := 4) hX (hK 0 0 0 (by decide) (by decide)) d_St_place_1 rfl ?_
  refine fg_St_112 (pc2 := 7) hX (hK 3 0 0 (by decide) (by decide)) d_St_place_4 rfl ?_
  exact sx_iret hX hE h d_St_place_7
def y_St_isTicks : MethodName := ⟨"SensorTree", "isTicks", "(I)Z"⟩
theorem hy_St_isTicks : y_St_isTicks.cls ≠ "java/lang/invoke/MethodHandle" ∧ y_St_isTicks.cls ≠ "java/lang/invoke/VarHandle" ∧ (parseMethodDescriptor y_St_isTicks.desc).map (fun d => d.parameters.length) = some 1 := by decide +kernel
theorem d_St_isTicks_0 : decode prog_1_method_39_code 0 = .ok (.iload_n 0, 1) := by decide +kernel
theorem d_St_isTicks_1 : decode prog_1_method_39_code 1 = .ok (.ifCond .lt 14, 3) := by decide +kernel
theorem d_St_isTicks_4 : decode prog_1_method_39_code 4 = .ok (.iload_n 0, 1) := by decide +kernel
theorem d_St_isTicks_5 : decode prog_1_method_39_code 5 = .ok (.sipush 200, 3) := by decide +kernel
theorem d_St_isTicks_8 : decode prog_1_method_39_code 8 = .ok (.if_icmp .gt 7, 3) := by decide +kernel
theorem d_St_isTicks_11 : decode prog_1_method_39_code 11 = .ok (.iconst 1, 1) := by decide +kernel
theorem d_St_isTicks_12 : decode prog_1_method_39_code 12 = .ok (.goto 4, 3) := by decide +kernel
theorem d_St_isTicks_15 : decode prog_1_method_39_code 15 = .ok (.iconst 0, 1) := by decide +kernel
theorem d_St_isTicks_16 : decode prog_1_method_39_code 16 = .ok (.ireturn, 1) := by decide +kernel
def wp_St_isTicks_b16   (Q : Int32 → sx_M → Prop) (w0 : Int32) (σ : sx_M) : Prop := (w0 = 0 ∨ w0 = 1) ∧ (Q w0 σ)
def wp_St_isTicks_b15   (Q : Int32 → sx_M → Prop)  (σ : sx_M) : Prop := wp_St_isTicks_b16 Q 0 σ
def wp_St_isTicks (x0 : Int32) (σ : sx_M) (Q : Int32 → sx_M → Prop) : Prop := if x0 < 0 then (wp_St_isTicks_b15 Q σ) else (if 200 < x0 then (wp_St_isTicks_b15 Q σ) else (wp_St_isTicks_b16 Q 1 σ))
abbrev rm_St_isTicks : Room := { frames := 0, cells := 0, slots := 0, locals := 0 }
set_option maxRecDepth 100000 in
set_option maxHeartbeats 4000000 in
theorem g_St_isTicks_b16 {l : Launch} {K : sx_K} {X : sx_T}   {Q : Int32 → sx_M → Prop} (hX : sx_C X K prog_1_method_39_code 1 "SensorTree" (some .boolean) rm_St_isTicks l) (hK : kx_C K) (hE : sx_E X K (sx_Qi K (fun r σ _ => Q r σ)))  (w0 : Int32) (σ : sx_M) (τ : sx_L)  (h : wp_St_isTicks_b16 Q  w0 σ) : sx_G X K 1 16 [] [.int w0] (sx_H K σ τ) := by
  unfold wp_St_isTicks_b16 at h
  obtain ⟨hc1, h⟩ := h
  exact sx_zret hX hE hc1 h d_St_isTicks_16
set_option maxRecDepth 100000 in
set_option maxHeartbeats 4000000 in
theorem g_St_isTicks_b15 {l : Launch} {K : sx_K} {X : sx_T}   {Q : Int32 → sx_M → Prop} (hX : sx_C X K prog_1_method_39_code 1 "SensorTree" (some .boolean) rm_St_isTicks l) (hK : kx_C K) (hE : sx_E X K (sx_Qi K (fun r σ _ => Q r σ)))   (σ : sx_M) (τ : sx_L)  (h : wp_St_isTicks_b15 Q  σ) : sx_G X K 1 15 [] [] (sx_H K σ τ) := by
  unfold wp_St_isTicks_b15 at h
  refine sx_iconst (v := 0) (pc2 := 16) hX d_St_isTicks_15 (by decide) rfl ?_
  exact g_St_isTicks_b16 hX hK hE   0 _ _ h
set_option maxRecDepth 100000 in
set_option maxHeartbeats 4000000 in
theorem c_St_isTicks {l : Launch} {K : sx_K} (hK : kx_C K) (x0 : Int32) (σ : sx_M) (τ : sx_L) (Q : Int32 → sx_M → Prop)  (h : wp_St_isTicks x0 σ Q) : Met l y_St_isTicks (sx_wd y_St_isTicks prog_1_method_39_code 1 (some .boolean)) rm_St_isTicks (sx_Pc K [.int x0] σ τ) (sx_Qi K (fun r σ _ => Q r σ)) 0 0 (sx_A K) := by
  refine sx_met (by decide) (Nat.le_of_ble_eq_true rfl) (fun X hX hE => ?_)
  replace hX : sx_C X K prog_1_method_39_code 1 "SensorTree" (some .boolean) rm_St_isTicks l := hX
  show sx_G X K 1 0 [(0, .int x0)] [] (sx_H K σ τ)
  unfold wp_St_isTicks at h
  refine sx_iload_n (pc2 := 1) hX 0 d_St_isTicks_0 rfl rfl rfl ?_
  refine sx_if_lt (tgt := 15) (pc2 := 4) hX d_St_isTicks_1 (by decide) rfl (fun hc2 => ?_) (fun hc2 => ?_)
  · replace h := sx_t h hc2
    refine sx_sub [] [] rfl ?_
    exact g_St_isTicks_b15 hX hK hE   _ _ h
  · replace h := sx_f h hc2
    refine sx_iload_n (pc2 := 5) hX 0 d_St_isTicks_4 rfl rfl rfl ?_
    refine sx_sipush (v := 200) (pc2 := 8) hX d_St_isTicks_5 (by decide) rfl ?_
    refine sx_icmp_gt (tgt := 15) (pc2 := 11) hX d_St_isTicks_8 (by decide) rfl (fun hc3 => ?_) (fun hc3 => ?_)
    · replace h := sx_t h hc3
      refine sx_sub [] [] rfl ?_
      exact g_St_isTicks_b15 hX hK hE   _ _ h
    · replace h := sx_f h hc3
      refine sx_iconst (v := 1) (pc2 := 12) hX d_St_isTicks_11 (by decide) rfl ?_
      refine sx_goto (tgt := 16) hX d_St_isTicks_12 (by decide) ?_
      refine sx_sub [] [] rfl ?_
      exact g_St_isTicks_b16 hX hK hE   1 _ _ h
theorem cl_St_115 {X : sx_T} {K : sx_K} {cc : ByteArray} {nL : Nat} {ret : Option FieldType} {rm : Room} {l : Launch} {pc pc2 : Nat} {lv : List (Nat × Value)} {st : List Value} {σ : sx_M} {τ : sx_L} {x0 : Int32} {Q : Int32 → sx_M → Prop} (hX : sx_C X K cc nL "SensorTree" ret rm l) (hK : kx_C K) (h : wp_St_isTicks x0 σ Q)  (hR : rm_St_isTicks.frames + 1 ≤ rm.frames ∧ 8 + (1 + 11) + rm_St_isTicks.locals ≤ rm.locals) (hst : (st.map fun v => v.category).sum ≤ 8) (hd : decode cc pc = .ok (.invokestatic 115, 3)) (hpc : pc + 3 = pc2) (kk : ∀ (r : Int32) (σ2 : sx_M) (τ2 : sx_L), Q r σ2 → sx_G X K nL pc2 lv (.int r :: st) (sx_H K σ2 τ2)) : sx_G X K nL pc lv (.int x0 :: st) (sx_H K σ τ) :=
  sx_callSi (Q := fun r σ _ => Q r σ) (As := [.int x0]) hX (c_St_isTicks hK x0 σ τ Q  h) lk_274 hy_St_isTicks lk_272 lk_260 lk_273 ⟨rfl, rfl⟩ hR hst rfl hd hpc kk
def y_St_remember : MethodName := ⟨"SensorTree", "remember", "()V"⟩
theorem hy_St_remember : y_St_remember.cls ≠ "java/lang/invoke/MethodHandle" ∧ y_St_remember.cls ≠ "java/lang/invoke/VarHandle" ∧ (parseMethodDescriptor y_St_remember.desc).map (fun d => d.parameters.length) = some 0 := by decide +kernel
theorem d_St_remember_0 : decode prog_1_method_43_code 0 = .ok (.aload_n 0, 1) := by decide +kernel
theorem d_St_remember_1 : decode prog_1_method_43_code 1 = .ok (.getfield 68, 3) := by decide +kernel
theorem d_St_remember_4 : decode prog_1_method_43_code 4 = .ok (.aload_n 0, 1) := by decide +kernel
theorem d_St_remember_5 : decode prog_1_method_43_code 5 = .ok (.getfield 72, 3) := by decide +kernel
theorem d_St_remember_8 : decode prog_1_method_43_code 8 = .ok (.aaload, 1) := by decide +kernel
theorem d_St_remember_9 : decode prog_1_method_43_code 9 = .ok (.aload_n 0, 1) := by decide +kernel
theorem d_St_remember_10 : decode prog_1_method_43_code 10 = .ok (.getfield 35, 3) := by decide +kernel
theorem d_St_remember_13 : decode prog_1_method_43_code 13 = .ok (.invokevirtual 191, 3) := by decide +kernel
theorem d_St_remember_16 : decode prog_1_method_43_code 16 = .ok (.aload_n 0, 1) := by decide +kernel
theorem d_St_remember_17 : decode prog_1_method_43_code 17 = .ok (.aload_n 0, 1) := by decide +kernel
theorem d_St_remember_18 : decode prog_1_method_43_code 18 = .ok (.getfield 72, 3) := by decide +kernel
theorem d_St_remember_21 : decode prog_1_method_43_code 21 = .ok (.iconst 1, 1) := by decide +kernel
theorem d_St_remember_22 : decode prog_1_method_43_code 22 = .ok (.iadd, 1) := by decide +kernel
theorem d_St_remember_23 : decode prog_1_method_43_code 23 = .ok (.bipush 20, 2) := by decide +kernel
theorem d_St_remember_25 : decode prog_1_method_43_code 25 = .ok (.if_icmp .ne 7, 3) := by decide +kernel
theorem d_St_remember_28 : decode prog_1_method_43_code 28 = .ok (.iconst 0, 1) := by decide +kernel
theorem d_St_remember_29 : decode prog_1_method_43_code 29 = .ok (.goto 9, 3) := by decide +kernel
theorem d_St_remember_32 : decode prog_1_method_43_code 32 = .ok (.aload_n 0, 1) := by decide +kernel
theorem d_St_remember_33 : decode prog_1_method_43_code 33 = .ok (.getfield 72, 3) := by decide +kernel
theorem d_St_remember_36 : decode prog_1_method_43_code 36 = .ok (.iconst 1, 1) := by decide +kernel
theorem d_St_remember_37 : decode prog_1_method_43_code 37 = .ok (.iadd, 1) := by decide +kernel
theorem d_St_remember_38 : decode prog_1_method_43_code 38 = .ok (.putfield 72, 3) := by decide +kernel
theorem d_St_remember_41 : decode prog_1_method_43_code 41 = .ok (.aload_n 0, 1) := by decide +kernel
theorem d_St_remember_42 : decode prog_1_method_43_code 42 = .ok (.bipush 20, 2) := by decide +kernel
theorem d_St_remember_44 : decode prog_1_method_43_code 44 = .ok (.aload_n 0, 1) := by decide +kernel
theorem d_St_remember_45 : decode prog_1_method_43_code 45 = .ok (.getfield 76, 3) := by decide +kernel
theorem d_St_remember_48 : decode prog_1_method_43_code 48 = .ok (.iconst 1, 1) := by decide +kernel
theorem d_St_remember_49 : decode prog_1_method_43_code 49 = .ok (.iadd, 1) := by decide +kernel
theorem d_St_remember_50 : decode prog_1_method_43_code 50 = .ok (.invokestatic 318, 3) := by decide +kernel
theorem d_St_remember_53 : decode prog_1_method_43_code 53 = .ok (.putfield 76, 3) := by decide +kernel
theorem d_St_remember_56 : decode prog_1_method_43_code 56 = .ok (.return_, 1) := by decide +kernel
def wp_St_remember_b38   (Q : sx_M → Prop) (w1 : Int32) (σ : sx_M) : Prop := ∀ σ1 : sx_M, σ1 = sx_u σ 0 0 0 10 w1 → (∀ σ2 : sx_M, σ2 = sx_u σ1 0 0 0 11 (if (σ1 0 0 0 11) + 1 < 20 then (σ1 0 0 0 11) + 1 else 20) → (Q σ2))
def wp_St_remember  (σ : sx_M) (Q : sx_M → Prop) : Prop := vp_in (σ 0 0 0 10) 20 ∧ (wp_Ne_copyFrom (2 + (σ 0 0 0 10).toNatClampNeg) 0 σ (fun σ4 => if (σ4 0 0 0 10) + 1 = 20 then (wp_St_remember_b38 Q 0 σ4) else (wp_St_remember_b38 Q ((σ4 0 0 0 10) + 1) σ4)))
abbrev rm_St_remember : Room := { frames := 3, cells := 0, slots := 0, locals := 61 }
set_option maxRecDepth 100000 in
set_option maxHeartbeats 4000000 in
theorem g_St_remember_b38 {l : Launch} {K : sx_K} {X : sx_T}   {Q : sx_M → Prop} (hX : sx_C X K prog_1_method_43_code 1 "SensorTree" none rm_St_remember l) (hK : kx_C K) (hE : sx_E X K (sx_Qv K (fun σ _ => Q σ)))  (w1 : Int32) (σ : sx_M) (τ : sx_L)  (h : wp_St_remember_b38 Q  w1 σ) : sx_G X K 1 38 [(0, .ref (K.2.2.1 0 0 0))] [.int w1, .ref (K.2.2.1 0 0 0)] (sx_H K σ τ) := by
  unfold wp_St_remember_b38 at h
  refine fp_St_72 (pc2 := 41) hX (hK 0 0 0 (by decide) (by decide)) d_St_remember_38 rfl ?_
  refine sx_nm (fun σ1 e1 => ?_)
  replace h := h σ1 e1
  refine sx_aload_n (pc2 := 42) hX 0 d_St_remember_41 rfl rfl rfl ?_
  refine sx_bipush (v := 20) (pc2 := 44) hX d_St_remember_42 (by decide) rfl ?_
  refine sx_aload_n (pc2 := 45) hX 0 d_St_remember_44 rfl rfl rfl ?_
  refine fg_St_76 (pc2 := 48) hX (hK 0 0 0 (by decide) (by decide)) d_St_remember_45 rfl ?_
  refine sx_iconst (v := 1) (pc2 := 49) hX d_St_remember_48 (by decide) rfl ?_
  refine sx_iadd (pc2 := 50) hX d_St_remember_49 rfl ?_
  refine sx_mmin (pc2 := 53) hX lk_17 kx_mmin.1 kx_mmin.2.1 kx_mmin.2.2 ⟨Nat.le_of_ble_eq_true rfl, Nat.le_of_ble_eq_true rfl⟩ d_St_remember_50 rfl ?_
  refine fp_St_76 (pc2 := 56) hX (hK 0 0 0 (by decide) (by decide)) d_St_remember_53 rfl ?_
  refine sx_nm (fun σ2 e2 => ?_)
  replace h := h σ2 e2
  exact sx_vret hX hE h d_St_remember_56
set_option maxRecDepth 100000 in
set_option maxHeartbeats 4000000 in
theorem c_St_remember {l : Launch} {K : sx_K} (hK : kx_C K)  (σ : sx_M) (τ : sx_L) (Q : sx_M → Prop)  (h : wp_St_remember σ Q) : Met l y_St_remember (sx_wd y_St_remember prog_1_method_43_code 1 none) rm_St_remember (sx_Pc K [.ref (K.2.2.1 0 0 0)] σ τ) (sx_Qv K (fun σ _ => Q σ)) 0 0 (sx_A K) := by
  refine sx_met (by decide) (Nat.le_of_ble_eq_true rfl) (fun X hX hE => ?_)
  replace hX : sx_C X K prog_1_method_43_code 1 "SensorTree" none rm_St_remember l := hX
  show sx_G X K 1 0 [(0, .ref (K.2.2.1 0 0 0))] [] (sx_H K σ τ)
  unfold wp_St_remember at h
  refine sx_aload_n (pc2 := 1) hX 0 d_St_remember_0 rfl rfl rfl ?_
  refine fg_St_68 (pc2 := 4) hX (hK 0 0 0 (by decide) (by decide)) d_St_remember_1 rfl ?_
  refine sx_aload_n (pc2 := 5) hX 0 d_St_remember_4 rfl rfl rfl ?_
  refine fg_St_72 (pc2 := 8) hX (hK 0 0 0 (by decide) (by decide)) d_St_remember_5 rfl ?_
  obtain ⟨hc3, h⟩ := h
  refine sx_aald (a := K.2.2.1 16 (2 + (σ 0 0 0 10).toNatClampNeg) 0) (pc2 := 9) hX (hK 37 0 0 (by decide) (by decide)) 5 rfl rfl rfl hc3 d_St_remember_8 rfl ?_
  refine sx_aload_n (pc2 := 10) hX 0 d_St_remember_9 rfl rfl rfl ?_
  refine fg_St_35 (pc2 := 13) hX (hK 0 0 0 (by decide) (by decide)) d_St_remember_10 rfl ?_
  refine cl_St_191 (pc2 := 16) hX hK h (sx_past hc3) (by decide) ⟨Nat.le_of_ble_eq_true rfl, Nat.le_of_ble_eq_true rfl⟩ (Nat.le_of_ble_eq_true rfl) d_St_remember_13 rfl (fun σ4 τ4 h => ?_)
  refine sx_aload_n (pc2 := 17) hX 0 d_St_remember_16 rfl rfl rfl ?_
  refine sx_aload_n (pc2 := 18) hX 0 d_St_remember_17 rfl rfl rfl ?_
  refine fg_St_72 (pc2 := 21) hX (hK 0 0 0 (by decide) (by decide)) d_St_remember_18 rfl ?_
  refine sx_iconst (v := 1) (pc2 := 22) hX d_St_remember_21 (by decide) rfl ?_
  refine sx_iadd (pc2 := 23) hX d_St_remember_22 rfl ?_
  refine sx_bipush (v := 20) (pc2 := 25) hX d_St_remember_23 (by decide) rfl ?_
  refine sx_icmp_ne (tgt := 32) (pc2 := 28) hX d_St_remember_25 (by decide) rfl (fun hc5 => ?_) (fun hc5 => ?_)
  · replace h := sx_f h hc5
    refine sx_aload_n (pc2 := 33) hX 0 d_St_remember_32 rfl rfl rfl ?_
    refine fg_St_72 (pc2 := 36) hX (hK 0 0 0 (by decide) (by decide)) d_St_remember_33 rfl ?_
    refine sx_iconst (v := 1) (pc2 := 37) hX d_St_remember_36 (by decide) rfl ?_
    refine sx_iadd (pc2 := 38) hX d_St_remember_37 rfl ?_
    exact g_St_remember_b38 hX hK hE   ((σ4 0 0 0 10) + 1) _ _ h
  · replace h := sx_t h hc5
    refine sx_iconst (v := 0) (pc2 := 29) hX d_St_remember_28 (by decide) rfl ?_
    refine sx_goto (tgt := 38) hX d_St_remember_29 (by decide) ?_
    exact g_St_remember_b38 hX hK hE   0 _ _ h
theorem cl_St_119 {X : sx_T} {K : sx_K} {cc : ByteArray} {nL : Nat} {ret : Option FieldType} {rm : Room} {l : Launch} {pc pc2 : Nat} {lv : List (Nat × Value)} {st : List Value} {σ : sx_M} {τ : sx_L}  {Q : sx_M → Prop} (hX : sx_C X K cc nL "SensorTree" ret rm l) (hK : kx_C K) (h : wp_St_remember  σ Q)  (hR : rm_St_remember.frames + 1 ≤ rm.frames ∧ 8 + (1 + 11) + rm_St_remember.locals ≤ rm.locals) (hst : (st.map fun v => v.category).sum ≤ 8) (hd : decode cc pc = .ok (.invokevirtual 119, 3)) (hpc : pc + 3 = pc2) (kk : ∀ (σ2 : sx_M) (τ2 : sx_L), Q σ2 → sx_G X K nL pc2 lv (st) (sx_H K σ2 τ2)) : sx_G X K nL pc lv (.ref (K.2.2.1 0 0 0) :: st) (sx_H K σ τ) :=
  sx_callVv (Q := fun σ _ => Q σ) (As := []) hX (c_St_remember hK  σ τ Q  h) (hK 0 0 0 (by decide) (by decide)) rfl rfl lk_277 ls_14 hy_St_remember lk_275 lk_260 lk_276 ⟨rfl, rfl⟩ hR hst rfl hd hpc kk
def y_St_ticks : MethodName := ⟨"SensorTree", "ticks", "(I)I"⟩
theorem hy_St_ticks : y_St_ticks.cls ≠ "java/lang/invoke/MethodHandle" ∧ y_St_ticks.cls ≠ "java/lang/invoke/VarHandle" ∧ (parseMethodDescriptor y_St_ticks.desc).map (fun d => d.parameters.length) = some 1 := by decide +kernel
theorem d_St_ticks_0 : decode prog_1_method_6_code 0 = .ok (.iload_n 1, 1) := by decide +kernel
theorem d_St_ticks_1 : decode prog_1_method_6_code 1 = .ok (.invokestatic 115, 3) := by decide +kernel
theorem d_St_ticks_4 : decode prog_1_method_6_code 4 = .ok (.ifCond .ne 5, 3) := by decide +kernel
theorem d_St_ticks_7 : decode prog_1_method_6_code 7 = .ok (.iconst (-1), 1) := by decide +kernel
theorem d_St_ticks_8 : decode prog_1_method_6_code 8 = .ok (.ireturn, 1) := by decide +kernel
theorem d_St_ticks_9 : decode prog_1_method_6_code 9 = .ok (.iload_n 1, 1) := by decide +kernel
theorem d_St_ticks_10 : decode prog_1_method_6_code 10 = .ok (.ifCond .le 7, 3) := by decide +kernel
theorem d_St_ticks_13 : decode prog_1_method_6_code 13 = .ok (.aload_n 0, 1) := by decide +kernel
theorem d_St_ticks_14 : decode prog_1_method_6_code 14 = .ok (.invokevirtual 119, 3) := by decide +kernel
theorem d_St_ticks_17 : decode prog_1_method_6_code 17 = .ok (.iconst 0, 1) := by decide +kernel
theorem d_St_ticks_18 : decode prog_1_method_6_code 18 = .ok (.istore_n 2, 1) := by decide +kernel
theorem d_St_ticks_19 : decode prog_1_method_6_code 19 = .ok (.iload_n 2, 1) := by decide +kernel
theorem d_St_ticks_20 : decode prog_1_method_6_code 20 = .ok (.iload_n 1, 1) := by decide +kernel
theorem d_St_ticks_21 : decode prog_1_method_6_code 21 = .ok (.if_icmp .ge 16, 3) := by decide +kernel
theorem d_St_ticks_24 : decode prog_1_method_6_code 24 = .ok (.aload_n 0, 1) := by decide +kernel
theorem d_St_ticks_25 : decode prog_1_method_6_code 25 = .ok (.getfield 47, 3) := by decide +kernel
theorem d_St_ticks_28 : decode prog_1_method_6_code 28 = .ok (.invokevirtual 122, 3) := by decide +kernel
theorem d_St_ticks_31 : decode prog_1_method_6_code 31 = .ok (.iinc 2 1, 3) := by decide +kernel
theorem d_St_ticks_34 : decode prog_1_method_6_code 34 = .ok (.goto (-15), 3) := by decide +kernel
theorem d_St_ticks_37 : decode prog_1_method_6_code 37 = .ok (.aload_n 0, 1) := by decide +kernel
theorem d_St_ticks_38 : decode prog_1_method_6_code 38 = .ok (.getfield 35, 3) := by decide +kernel
theorem d_St_ticks_41 : decode prog_1_method_6_code 41 = .ok (.getfield 125, 3) := by decide +kernel
theorem d_St_ticks_44 : decode prog_1_method_6_code 44 = .ok (.ireturn, 1) := by decide +kernel
def wp_St_ticks_b19   (Q : Int32 → sx_M → Prop) : Nat → Int32 → Int32 → sx_M → Prop
  | 0, _, _, _ => False
  | f + 1, v1, v2, σ => if v1 ≤ v2 then (Q (σ 16 0 0 1) σ) else (wp_En_passTick 0 σ (fun σ2 => wp_St_ticks_b19 Q f v1 (v2 + 1) σ2))
def wp_St_ticks_b17   (Q : Int32 → sx_M → Prop) (v1 : Int32) (σ : sx_M) : Prop := ∃ f19, wp_St_ticks_b19 Q f19 v1 0 σ
def wp_St_ticks (x1 : Int32) (σ : sx_M) (Q : Int32 → sx_M → Prop) : Prop := wp_St_isTicks x1 σ (fun r3 σ3 => if r3 = 0 then (Q (-1) σ3) else (if x1 ≤ 0 then (wp_St_ticks_b17 Q x1 σ3) else (wp_St_remember σ3 (fun σ6 => wp_St_ticks_b17 Q x1 σ6))))
abbrev rm_St_ticks : Room := { frames := 6, cells := 0, slots := 0, locals := 141 }
set_option maxRecDepth 100000 in
set_option maxHeartbeats 4000000 in
theorem g_St_ticks_b19 {l : Launch} {K : sx_K} {X : sx_T}   {Q : Int32 → sx_M → Prop} (hX : sx_C X K prog_1_method_6_code 3 "SensorTree" (some .int) rm_St_ticks l) (hK : kx_C K) (hE : sx_E X K (sx_Qi K (fun r σ _ => Q r σ)))  : ∀ (f : Nat) (v1 : Int32) (v2 : Int32) (σ : sx_M) (τ : sx_L) , wp_St_ticks_b19 Q f v1 v2 σ → sx_G X K 3 19 [(0, .ref (K.2.2.1 0 0 0)), (1, .int v1), (2, .int v2)] [] (sx_H K σ τ) := by
  intro f
  induction f with
  | zero => intro v1 v2 σ τ h; exact (show False from h).elim
  | succ f ih =>
    intro v1 v2 σ τ h
    rw [wp_St_ticks_b19] at h
    refine sx_iload_n (pc2 := 20) hX 2 d_St_ticks_19 rfl rfl rfl ?_
    refine sx_iload_n (pc2 := 21) hX 1 d_St_ticks_20 rfl rfl rfl ?_
    refine sx_icmp_ge (tgt := 37) (pc2 := 24) hX d_St_ticks_21 (by decide) rfl (fun hc1 => ?_) (fun hc1 => ?_)
    · replace h := sx_t h hc1
      refine sx_aload_n (pc2 := 38) hX 0 d_St_ticks_37 rfl rfl rfl ?_
      refine fg_St_35 (pc2 := 41) hX (hK 0 0 0 (by decide) (by decide)) d_St_ticks_38 rfl ?_
      refine fg_St_125 (pc2 := 44) hX (hK 16 0 0 (by decide) (by decide)) d_St_ticks_41 rfl ?_
      exact sx_iret hX hE h d_St_ticks_44
    · replace h := sx_f h hc1
      refine sx_aload_n (pc2 := 25) hX 0 d_St_ticks_24 rfl rfl rfl ?_
      refine fg_St_47 (pc2 := 28) hX (hK 0 0 0 (by decide) (by decide)) d_St_ticks_25 rfl ?_
      refine cl_St_122 (pc2 := 31) hX hK h (by decide) ⟨Nat.le_of_ble_eq_true rfl, Nat.le_of_ble_eq_true rfl⟩ (Nat.le_of_ble_eq_true rfl) d_St_ticks_28 rfl (fun σ2 τ2 h => ?_)
      refine sx_iinc (pc2 := 34) hX 2 _ [(0, .ref (K.2.2.1 0 0 0)), (1, .int v1), (2, .int (v2 + 1))] [1, 2, 0] d_St_ticks_31 rfl (v2 + 1) rfl (by decide) rfl rfl rfl ?_
      refine sx_goto (tgt := 19) hX d_St_ticks_34 (by decide) ?_
      exact ih v1 (v2 + 1) _ _ h
set_option maxRecDepth 100000 in
set_option maxHeartbeats 4000000 in
theorem g_St_ticks_b17 {l : Launch} {K : sx_K} {X : sx_T}   {Q : Int32 → sx_M → Prop} (hX : sx_C X K prog_1_method_6_code 3 "SensorTree" (some .int) rm_St_ticks l) (hK : kx_C K) (hE : sx_E X K (sx_Qi K (fun r σ _ => Q r σ)))  (v1 : Int32) (σ : sx_M) (τ : sx_L)  (h : wp_St_ticks_b17 Q  v1 σ) : sx_G X K 3 17 [(0, .ref (K.2.2.1 0 0 0)), (1, .int v1)] [] (sx_H K σ τ) := by
  unfold wp_St_ticks_b17 at h
  refine sx_iconst (v := 0) (pc2 := 18) hX d_St_ticks_17 (by decide) rfl ?_
  refine sx_istore_n (pc2 := 19) hX _ [(0, .ref (K.2.2.1 0 0 0)), (1, .int v1), (2, .int 0)] [1, 2, 0] d_St_ticks_18 rfl (by decide) rfl rfl rfl ?_
  obtain ⟨f19, h⟩ := h
  exact g_St_ticks_b19 hX hK hE   f19 v1 0 _ _ h
set_option maxRecDepth 100000 in
set_option maxHeartbeats 4000000 in
theorem c_St_ticks {l : Launch} {K : sx_K} (hK : kx_C K) (x1 : Int32) (σ : sx_M) (τ : sx_L) (Q : Int32 → sx_M → Prop)  (h : wp_St_ticks x1 σ Q) : Met l y_St_ticks (sx_wd y_St_ticks prog_1_method_6_code 3 (some .int)) rm_St_ticks (sx_Pc K [.ref (K.2.2.1 0 0 0), .int x1] σ τ) (sx_Qi K (fun r σ _ => Q r σ)) 0 0 (sx_A K) := by
  refine sx_met (by decide) (Nat.le_of_ble_eq_true rfl) (fun X hX hE => ?_)
  replace hX : sx_C X K prog_1_method_6_code 3 "SensorTree" (some .int) rm_St_ticks l := hX
  show sx_G X K 3 0 [(0, .ref (K.2.2.1 0 0 0)), (1, .int x1)] [] (sx_H K σ τ)
  unfold wp_St_ticks at h
  refine sx_iload_n (pc2 := 1) hX 1 d_St_ticks_0 rfl rfl rfl ?_
  refine cl_St_115 (pc2 := 4) hX hK h  ⟨Nat.le_of_ble_eq_true rfl, Nat.le_of_ble_eq_true rfl⟩ (Nat.le_of_ble_eq_true rfl) d_St_ticks_1 rfl (fun r3 σ3 τ3 h => ?_)
  refine sx_if_ne (tgt := 9) (pc2 := 7) hX d_St_ticks_4 (by decide) rfl (fun hc4 => ?_) (fun hc4 => ?_)
  · replace h := sx_f h hc4
    refine sx_iload_n (pc2 := 10) hX 1 d_St_ticks_9 rfl rfl rfl ?_
    refine sx_if_le (tgt := 17) (pc2 := 13) hX d_St_ticks_10 (by decide) rfl (fun hc5 => ?_) (fun hc5 => ?_)
    · replace h := sx_t h hc5
      exact g_St_ticks_b17 hX hK hE   x1 _ _ h
    · replace h := sx_f h hc5
      refine sx_aload_n (pc2 := 14) hX 0 d_St_ticks_13 rfl rfl rfl ?_
      refine cl_St_119 (pc2 := 17) hX hK h  ⟨Nat.le_of_ble_eq_true rfl, Nat.le_of_ble_eq_true rfl⟩ (Nat.le_of_ble_eq_true rfl) d_St_ticks_14 rfl (fun σ6 τ6 h => ?_)
      exact g_St_ticks_b17 hX hK hE   x1 _ _ h
  · replace h := sx_t h hc4
    refine sx_iconst (v := (-1)) (pc2 := 8) hX d_St_ticks_7 (by decide) rfl ?_
    exact sx_iret hX hE h d_St_ticks_8
def y_St_join : MethodName := ⟨"SensorTree", "join", "(IZ)Z"⟩
theorem hy_St_join : y_St_join.cls ≠ "java/lang/invoke/MethodHandle" ∧ y_St_join.cls ≠ "java/lang/invoke/VarHandle" ∧ (parseMethodDescriptor y_St_join.desc).map (fun d => d.parameters.length) = some 2 := by decide +kernel
theorem d_St_join_0 : decode prog_1_method_7_code 0 = .ok (.aload_n 0, 1) := by decide +kernel
theorem d_St_join_1 : decode prog_1_method_7_code 1 = .ok (.getfield 26, 3) := by decide +kernel
theorem d_St_join_4 : decode prog_1_method_7_code 4 = .ok (.iload_n 1, 1) := by decide +kernel
theorem d_St_join_5 : decode prog_1_method_7_code 5 = .ok (.invokevirtual 128, 3) := by decide +kernel
theorem d_St_join_8 : decode prog_1_method_7_code 8 = .ok (.ifCond .eq 15, 3) := by decide +kernel
theorem d_St_join_11 : decode prog_1_method_7_code 11 = .ok (.aload_n 0, 1) := by decide +kernel
theorem d_St_join_12 : decode prog_1_method_7_code 12 = .ok (.getfield 35, 3) := by decide +kernel
theorem d_St_join_15 : decode prog_1_method_7_code 15 = .ok (.iload_n 1, 1) := by decide +kernel
theorem d_St_join_16 : decode prog_1_method_7_code 16 = .ok (.invokevirtual 131, 3) := by decide +kernel
theorem d_St_join_19 : decode prog_1_method_7_code 19 = .ok (.iload_n 2, 1) := by decide +kernel
theorem d_St_join_20 : decode prog_1_method_7_code 20 = .ok (.if_icmp .ne 5, 3) := by decide +kernel
theorem d_St_join_23 : decode prog_1_method_7_code 23 = .ok (.iconst 0, 1) := by decide +kernel
theorem d_St_join_24 : decode prog_1_method_7_code 24 = .ok (.ireturn, 1) := by decide +kernel
theorem d_St_join_25 : decode prog_1_method_7_code 25 = .ok (.aload_n 0, 1) := by decide +kernel
theorem d_St_join_26 : decode prog_1_method_7_code 26 = .ok (.invokevirtual 119, 3) := by decide +kernel
theorem d_St_join_29 : decode prog_1_method_7_code 29 = .ok (.aload_n 0, 1) := by decide +kernel
theorem d_St_join_30 : decode prog_1_method_7_code 30 = .ok (.getfield 35, 3) := by decide +kernel
theorem d_St_join_33 : decode prog_1_method_7_code 33 = .ok (.getfield 134, 3) := by decide +kernel
theorem d_St_join_36 : decode prog_1_method_7_code 36 = .ok (.iload_n 1, 1) := by decide +kernel
theorem d_St_join_37 : decode prog_1_method_7_code 37 = .ok (.iload_n 2, 1) := by decide +kernel
theorem d_St_join_38 : decode prog_1_method_7_code 38 = .ok (.ifCond .eq 7, 3) := by decide +kernel
theorem d_St_join_41 : decode prog_1_method_7_code 41 = .ok (.iconst 1, 1) := by decide +kernel
theorem d_St_join_42 : decode prog_1_method_7_code 42 = .ok (.goto 4, 3) := by decide +kernel
theorem d_St_join_45 : decode prog_1_method_7_code 45 = .ok (.iconst 0, 1) := by decide +kernel
theorem d_St_join_46 : decode prog_1_method_7_code 46 = .ok (.iastore, 1) := by decide +kernel
theorem d_St_join_47 : decode prog_1_method_7_code 47 = .ok (.aload_n 0, 1) := by decide +kernel
theorem d_St_join_48 : decode prog_1_method_7_code 48 = .ok (.getfield 47, 3) := by decide +kernel
theorem d_St_join_51 : decode prog_1_method_7_code 51 = .ok (.invokevirtual 138, 3) := by decide +kernel
theorem d_St_join_54 : decode prog_1_method_7_code 54 = .ok (.iconst 1, 1) := by decide +kernel
theorem d_St_join_55 : decode prog_1_method_7_code 55 = .ok (.ireturn, 1) := by decide +kernel
def wp_St_join_b46   (Q : Int32 → sx_M → Prop) (w0n : Nat) (w1 : Int32) (w2 : Int32) (σ : sx_M) : Prop := vp_in w1 16 ∧ (∀ σ2 : sx_M, σ2 = sx_u σ 18 w0n 0 w1.toNatClampNeg w2 → (wp_En_allChoose 0 σ2 (fun σ3 => Q 1 σ3)))
def wp_St_join_b23   (Q : Int32 → sx_M → Prop)  (σ : sx_M) : Prop := Q 0 σ
def wp_St_join (x1 : Int32) (x2 : Int32) (σ : sx_M) (Q : Int32 → sx_M → Prop) : Prop := wp_Pl_isLink 0 x1 σ (fun r4 σ4 => if r4 = 0 then (wp_St_join_b23 Q σ4) else (wp_Ne_isUp 0 x1 σ4 (fun r6 σ6 => if r6 = x2 then (wp_St_join_b23 Q σ6) else (wp_St_remember σ6 (fun σ8 => if x2 = 0 then (wp_St_join_b46 Q 0 x1 0 σ8) else (wp_St_join_b46 Q 0 x1 1 σ8))))))
abbrev rm_St_join : Room := { frames := 5, cells := 0, slots := 0, locals := 117 }
set_option maxRecDepth 100000 in
set_option maxHeartbeats 4000000 in
theorem g_St_join_b46 {l : Launch} {K : sx_K} {X : sx_T}   {Q : Int32 → sx_M → Prop} (hX : sx_C X K prog_1_method_7_code 3 "SensorTree" (some .boolean) rm_St_join l) (hK : kx_C K) (hE : sx_E X K (sx_Qi K (fun r σ _ => Q r σ)))  (w0n : Nat) (w1 : Int32) (w2 : Int32) (σ : sx_M) (τ : sx_L) (hw0n : w0n < 25) (h : wp_St_join_b46 Q  w0n w1 w2 σ) : sx_G X K 3 46 [(0, .ref (K.2.2.1 0 0 0))] [.int w2, .int w1, .ref (K.2.2.1 18 w0n 0)] (sx_H K σ τ) := by
  unfold wp_St_join_b46 at h
  obtain ⟨hc1, h⟩ := h
  refine sx_iast (pc2 := 47) hX (hK 18 w0n 0 hw0n (by decide)) (fun _ => rfl) hc1 d_St_join_46 rfl ?_
  refine sx_nm (fun σ2 e2 => ?_)
  replace h := h σ2 e2
  refine sx_aload_n (pc2 := 48) hX 0 d_St_join_47 rfl rfl rfl ?_
  refine fg_St_47 (pc2 := 51) hX (hK 0 0 0 (by decide) (by decide)) d_St_join_48 rfl ?_
  refine cl_St_138 (pc2 := 54) hX hK h (by decide) ⟨Nat.le_of_ble_eq_true rfl, Nat.le_of_ble_eq_true rfl⟩ (Nat.le_of_ble_eq_true rfl) d_St_join_51 rfl (fun σ3 τ3 h => ?_)
  refine sx_iconst (v := 1) (pc2 := 55) hX d_St_join_54 (by decide) rfl ?_
  exact sx_zret hX hE (by decide) h d_St_join_55
set_option maxRecDepth 100000 in
set_option maxHeartbeats 4000000 in
theorem g_St_join_b23 {l : Launch} {K : sx_K} {X : sx_T}   {Q : Int32 → sx_M → Prop} (hX : sx_C X K prog_1_method_7_code 3 "SensorTree" (some .boolean) rm_St_join l) (hK : kx_C K) (hE : sx_E X K (sx_Qi K (fun r σ _ => Q r σ)))   (σ : sx_M) (τ : sx_L)  (h : wp_St_join_b23 Q  σ) : sx_G X K 3 23 [] [] (sx_H K σ τ) := by
  unfold wp_St_join_b23 at h
  refine sx_iconst (v := 0) (pc2 := 24) hX d_St_join_23 (by decide) rfl ?_
  exact sx_zret hX hE (by decide) h d_St_join_24
set_option maxRecDepth 100000 in
set_option maxHeartbeats 4000000 in
theorem c_St_join {l : Launch} {K : sx_K} (hK : kx_C K) (x1 : Int32) (x2 : Int32) (σ : sx_M) (τ : sx_L) (Q : Int32 → sx_M → Prop)  (h : wp_St_join x1 x2 σ Q) : Met l y_St_join (sx_wd y_St_join prog_1_method_7_code 3 (some .boolean)) rm_St_join (sx_Pc K [.ref (K.2.2.1 0 0 0), .int x1, .int x2] σ τ) (sx_Qi K (fun r σ _ => Q r σ)) 0 0 (sx_A K) := by
  refine sx_met (by decide) (Nat.le_of_ble_eq_true rfl) (fun X hX hE => ?_)
  replace hX : sx_C X K prog_1_method_7_code 3 "SensorTree" (some .boolean) rm_St_join l := hX
  show sx_G X K 3 0 [(0, .ref (K.2.2.1 0 0 0)), (1, .int x1), (2, .int x2)] [] (sx_H K σ τ)
  unfold wp_St_join at h
  refine sx_aload_n (pc2 := 1) hX 0 d_St_join_0 rfl rfl rfl ?_
  refine fg_St_26 (pc2 := 4) hX (hK 0 0 0 (by decide) (by decide)) d_St_join_1 rfl ?_
  refine sx_iload_n (pc2 := 5) hX 1 d_St_join_4 rfl rfl rfl ?_
  refine cl_St_128 (pc2 := 8) hX hK h (by decide) ⟨Nat.le_of_ble_eq_true rfl, Nat.le_of_ble_eq_true rfl⟩ (Nat.le_of_ble_eq_true rfl) d_St_join_5 rfl (fun r4 σ4 τ4 h => ?_)
  refine sx_if_eq (tgt := 23) (pc2 := 11) hX d_St_join_8 (by decide) rfl (fun hc5 => ?_) (fun hc5 => ?_)
  · replace h := sx_t h hc5
    refine sx_sub [] [] rfl ?_
    exact g_St_join_b23 hX hK hE   _ _ h
  · replace h := sx_f h hc5
    refine sx_aload_n (pc2 := 12) hX 0 d_St_join_11 rfl rfl rfl ?_
    refine fg_St_35 (pc2 := 15) hX (hK 0 0 0 (by decide) (by decide)) d_St_join_12 rfl ?_
    refine sx_iload_n (pc2 := 16) hX 1 d_St_join_15 rfl rfl rfl ?_
    refine cl_St_131 (pc2 := 19) hX hK h (by decide) ⟨Nat.le_of_ble_eq_true rfl, Nat.le_of_ble_eq_true rfl⟩ (Nat.le_of_ble_eq_true rfl) d_St_join_16 rfl (fun r6 σ6 τ6 h => ?_)
    refine sx_iload_n (pc2 := 20) hX 2 d_St_join_19 rfl rfl rfl ?_
    refine sx_icmp_ne (tgt := 25) (pc2 := 23) hX d_St_join_20 (by decide) rfl (fun hc7 => ?_) (fun hc7 => ?_)
    · replace h := sx_f h hc7
      refine sx_aload_n (pc2 := 26) hX 0 d_St_join_25 rfl rfl rfl ?_
      refine cl_St_119 (pc2 := 29) hX hK h  ⟨Nat.le_of_ble_eq_true rfl, Nat.le_of_ble_eq_true rfl⟩ (Nat.le_of_ble_eq_true rfl) d_St_join_26 rfl (fun σ8 τ8 h => ?_)
      refine sx_aload_n (pc2 := 30) hX 0 d_St_join_29 rfl rfl rfl ?_
      refine fg_St_35 (pc2 := 33) hX (hK 0 0 0 (by decide) (by decide)) d_St_join_30 rfl ?_
      refine fg_St_134 (pc2 := 36) hX (hK 16 0 0 (by decide) (by decide)) d_St_join_33 rfl ?_
      refine sx_iload_n (pc2 := 37) hX 1 d_St_join_36 rfl rfl rfl ?_
      refine sx_iload_n (pc2 := 38) hX 2 d_St_join_37 rfl rfl rfl ?_
      refine sx_if_eq (tgt := 45) (pc2 := 41) hX d_St_join_38 (by decide) rfl (fun hc9 => ?_) (fun hc9 => ?_)
      · replace h := sx_t h hc9
        refine sx_iconst (v := 0) (pc2 := 46) hX d_St_join_45 (by decide) rfl ?_
        refine sx_sub [(0, .ref (K.2.2.1 0 0 0))] [0] rfl ?_
        exact g_St_join_b46 hX hK hE   0 x1 0 _ _ (by decide) h
      · replace h := sx_f h hc9
        refine sx_iconst (v := 1) (pc2 := 42) hX d_St_join_41 (by decide) rfl ?_
        refine sx_goto (tgt := 46) hX d_St_join_42 (by decide) ?_
        refine sx_sub [(0, .ref (K.2.2.1 0 0 0))] [0] rfl ?_
        exact g_St_join_b46 hX hK hE   0 x1 1 _ _ (by decide) h
    · replace h := sx_t h hc7
      refine sx_sub [] [] rfl ?_
      exact g_St_join_b23 hX hK hE   _ _ h
def y_St_cost : MethodName := ⟨"SensorTree", "cost", "(II)Z"⟩
theorem hy_St_cost : y_St_cost.cls ≠ "java/lang/invoke/MethodHandle" ∧ y_St_cost.cls ≠ "java/lang/invoke/VarHandle" ∧ (parseMethodDescriptor y_St_cost.desc).map (fun d => d.parameters.length) = some 2 := by decide +kernel
theorem d_St_cost_0 : decode prog_1_method_8_code 0 = .ok (.aload_n 0, 1) := by decide +kernel
theorem d_St_cost_1 : decode prog_1_method_8_code 1 = .ok (.getfield 26, 3) := by decide +kernel
theorem d_St_cost_4 : decode prog_1_method_8_code 4 = .ok (.iload_n 1, 1) := by decide +kernel
theorem d_St_cost_5 : decode prog_1_method_8_code 5 = .ok (.invokevirtual 128, 3) := by decide +kernel
theorem d_St_cost_8 : decode prog_1_method_8_code 8 = .ok (.ifCond .eq 27, 3) := by decide +kernel
theorem d_St_cost_11 : decode prog_1_method_8_code 11 = .ok (.iload_n 2, 1) := by decide +kernel
theorem d_St_cost_12 : decode prog_1_method_8_code 12 = .ok (.iconst 1, 1) := by decide +kernel
theorem d_St_cost_13 : decode prog_1_method_8_code 13 = .ok (.if_icmp .lt 22, 3) := by decide +kernel
theorem d_St_cost_16 : decode prog_1_method_8_code 16 = .ok (.iload_n 2, 1) := by decide +kernel
theorem d_St_cost_17 : decode prog_1_method_8_code 17 = .ok (.bipush 9, 2) := by decide +kernel
theorem d_St_cost_19 : decode prog_1_method_8_code 19 = .ok (.if_icmp .gt 16, 3) := by decide +kernel
theorem d_St_cost_22 : decode prog_1_method_8_code 22 = .ok (.aload_n 0, 1) := by decide +kernel
theorem d_St_cost_23 : decode prog_1_method_8_code 23 = .ok (.getfield 35, 3) := by decide +kernel
theorem d_St_cost_26 : decode prog_1_method_8_code 26 = .ok (.getfield 141, 3) := by decide +kernel
theorem d_St_cost_29 : decode prog_1_method_8_code 29 = .ok (.iload_n 1, 1) := by decide +kernel
theorem d_St_cost_30 : decode prog_1_method_8_code 30 = .ok (.iaload, 1) := by decide +kernel
theorem d_St_cost_31 : decode prog_1_method_8_code 31 = .ok (.iload_n 2, 1) := by decide +kernel
theorem d_St_cost_32 : decode prog_1_method_8_code 32 = .ok (.if_icmp .ne 5, 3) := by decide +kernel
theorem d_St_cost_35 : decode prog_1_method_8_code 35 = .ok (.iconst 0, 1) := by decide +kernel
theorem d_St_cost_36 : decode prog_1_method_8_code 36 = .ok (.ireturn, 1) := by decide +kernel
theorem d_St_cost_37 : decode prog_1_method_8_code 37 = .ok (.aload_n 0, 1) := by decide +kernel
theorem d_St_cost_38 : decode prog_1_method_8_code 38 = .ok (.invokevirtual 119, 3) := by decide +kernel
theorem d_St_cost_41 : decode prog_1_method_8_code 41 = .ok (.aload_n 0, 1) := by decide +kernel
theorem d_St_cost_42 : decode prog_1_method_8_code 42 = .ok (.getfield 35, 3) := by decide +kernel
theorem d_St_cost_45 : decode prog_1_method_8_code 45 = .ok (.getfield 141, 3) := by decide +kernel
theorem d_St_cost_48 : decode prog_1_method_8_code 48 = .ok (.iload_n 1, 1) := by decide +kernel
theorem d_St_cost_49 : decode prog_1_method_8_code 49 = .ok (.iload_n 2, 1) := by decide +kernel
theorem d_St_cost_50 : decode prog_1_method_8_code 50 = .ok (.iastore, 1) := by decide +kernel
theorem d_St_cost_51 : decode prog_1_method_8_code 51 = .ok (.aload_n 0, 1) := by decide +kernel
theorem d_St_cost_52 : decode prog_1_method_8_code 52 = .ok (.getfield 47, 3) := by decide +kernel
theorem d_St_cost_55 : decode prog_1_method_8_code 55 = .ok (.invokevirtual 138, 3) := by decide +kernel
theorem d_St_cost_58 : decode prog_1_method_8_code 58 = .ok (.iconst 1, 1) := by decide +kernel
theorem d_St_cost_59 : decode prog_1_method_8_code 59 = .ok (.ireturn, 1) := by decide +kernel
def wp_St_cost_b35   (Q : Int32 → sx_M → Prop)  (σ : sx_M) : Prop := Q 0 σ
def wp_St_cost (x1 : Int32) (x2 : Int32) (σ : sx_M) (Q : Int32 → sx_M → Prop) : Prop := wp_Pl_isLink 0 x1 σ (fun r1 σ1 => if r1 = 0 then (wp_St_cost_b35 Q σ1) else (if x2 < 1 then (wp_St_cost_b35 Q σ1) else (if 9 < x2 then (wp_St_cost_b35 Q σ1) else (vp_in x1 16 ∧ (if σ1 19 0 0 x1.toNatClampNeg = x2 then (wp_St_cost_b35 Q σ1) else (wp_St_remember σ1 (fun σ7 => vp_in x1 16 ∧ (∀ σ9 : sx_M, σ9 = sx_u σ7 19 0 0 x1.toNatClampNeg x2 → (wp_En_allChoose 0 σ9 (fun σ10 => Q 1 σ10))))))))))
abbrev rm_St_cost : Room := { frames := 5, cells := 0, slots := 0, locals := 117 }
set_option maxRecDepth 100000 in
set_option maxHeartbeats 4000000 in
theorem g_St_cost_b35 {l : Launch} {K : sx_K} {X : sx_T}   {Q : Int32 → sx_M → Prop} (hX : sx_C X K prog_1_method_8_code 3 "SensorTree" (some .boolean) rm_St_cost l) (hK : kx_C K) (hE : sx_E X K (sx_Qi K (fun r σ _ => Q r σ)))   (σ : sx_M) (τ : sx_L)  (h : wp_St_cost_b35 Q  σ) : sx_G X K 3 35 [] [] (sx_H K σ τ) := by
  unfold wp_St_cost_b35 at h
  refine sx_iconst (v := 0) (pc2 := 36) hX d_St_cost_35 (by decide) rfl ?_
  exact sx_zret hX hE (by decide) h d_St_cost_36
set_option maxRecDepth 100000 in
set_option maxHeartbeats 4000000 in
theorem c_St_cost {l : Launch} {K : sx_K} (hK : kx_C K) (x1 : Int32) (x2 : Int32) (σ : sx_M) (τ : sx_L) (Q : Int32 → sx_M → Prop)  (h : wp_St_cost x1 x2 σ Q) : Met l y_St_cost (sx_wd y_St_cost prog_1_method_8_code 3 (some .boolean)) rm_St_cost (sx_Pc K [.ref (K.2.2.1 0 0 0), .int x1, .int x2] σ τ) (sx_Qi K (fun r σ _ => Q r σ)) 0 0 (sx_A K) := by
  refine sx_met (by decide) (Nat.le_of_ble_eq_true rfl) (fun X hX hE => ?_)
  replace hX : sx_C X K prog_1_method_8_code 3 "SensorTree" (some .boolean) rm_St_cost l := hX
  show sx_G X K 3 0 [(0, .ref (K.2.2.1 0 0 0)), (1, .int x1), (2, .int x2)] [] (sx_H K σ τ)
  unfold wp_St_cost at h
  refine sx_aload_n (pc2 := 1) hX 0 d_St_cost_0 rfl rfl rfl ?_
  refine fg_St_26 (pc2 := 4) hX (hK 0 0 0 (by decide) (by decide)) d_St_cost_1 rfl ?_
  refine sx_iload_n (pc2 := 5) hX 1 d_St_cost_4 rfl rfl rfl ?_
  refine cl_St_128 (pc2 := 8) hX hK h (by decide) ⟨Nat.le_of_ble_eq_true rfl, Nat.le_of_ble_eq_true rfl⟩ (Nat.le_of_ble_eq_true rfl) d_St_cost_5 rfl (fun r1 σ1 τ1 h => ?_)
  refine sx_if_eq (tgt := 35) (pc2 := 11) hX d_St_cost_8 (by decide) rfl (fun hc2 => ?_) (fun hc2 => ?_)
  · replace h := sx_t h hc2
    refine sx_sub [] [] rfl ?_
    exact g_St_cost_b35 hX hK hE   _ _ h
  · replace h := sx_f h hc2
    refine sx_iload_n (pc2 := 12) hX 2 d_St_cost_11 rfl rfl rfl ?_
    refine sx_iconst (v := 1) (pc2 := 13) hX d_St_cost_12 (by decide) rfl ?_
    refine sx_icmp_lt (tgt := 35) (pc2 := 16) hX d_St_cost_13 (by decide) rfl (fun hc3 => ?_) (fun hc3 => ?_)
    · replace h := sx_t h hc3
      refine sx_sub [] [] rfl ?_
      exact g_St_cost_b35 hX hK hE   _ _ h
    · replace h := sx_f h hc3
      refine sx_iload_n (pc2 := 17) hX 2 d_St_cost_16 rfl rfl rfl ?_
      refine sx_bipush (v := 9) (pc2 := 19) hX d_St_cost_17 (by decide) rfl ?_
      refine sx_icmp_gt (tgt := 35) (pc2 := 22) hX d_St_cost_19 (by decide) rfl (fun hc4 => ?_) (fun hc4 => ?_)
      · replace h := sx_t h hc4
        refine sx_sub [] [] rfl ?_
        exact g_St_cost_b35 hX hK hE   _ _ h
      · replace h := sx_f h hc4
        refine sx_aload_n (pc2 := 23) hX 0 d_St_cost_22 rfl rfl rfl ?_
        refine fg_St_35 (pc2 := 26) hX (hK 0 0 0 (by decide) (by decide)) d_St_cost_23 rfl ?_
        refine fg_St_141 (pc2 := 29) hX (hK 16 0 0 (by decide) (by decide)) d_St_cost_26 rfl ?_
        refine sx_iload_n (pc2 := 30) hX 1 d_St_cost_29 rfl rfl rfl ?_
        obtain ⟨hc5, h⟩ := h
        refine sx_iald (pc2 := 31) hX (hK 19 0 0 (by decide) (by decide)) rfl hc5 d_St_cost_30 rfl ?_
        refine sx_iload_n (pc2 := 32) hX 2 d_St_cost_31 rfl rfl rfl ?_
        refine sx_icmp_ne (tgt := 37) (pc2 := 35) hX d_St_cost_32 (by decide) rfl (fun hc6 => ?_) (fun hc6 => ?_)
        · replace h := sx_f h hc6
          refine sx_aload_n (pc2 := 38) hX 0 d_St_cost_37 rfl rfl rfl ?_
          refine cl_St_119 (pc2 := 41) hX hK h  ⟨Nat.le_of_ble_eq_true rfl, Nat.le_of_ble_eq_true rfl⟩ (Nat.le_of_ble_eq_true rfl) d_St_cost_38 rfl (fun σ7 τ7 h => ?_)
          refine sx_aload_n (pc2 := 42) hX 0 d_St_cost_41 rfl rfl rfl ?_
          refine fg_St_35 (pc2 := 45) hX (hK 0 0 0 (by decide) (by decide)) d_St_cost_42 rfl ?_
          refine fg_St_141 (pc2 := 48) hX (hK 16 0 0 (by decide) (by decide)) d_St_cost_45 rfl ?_
          refine sx_iload_n (pc2 := 49) hX 1 d_St_cost_48 rfl rfl rfl ?_
          refine sx_iload_n (pc2 := 50) hX 2 d_St_cost_49 rfl rfl rfl ?_
          obtain ⟨hc8, h⟩ := h
          refine sx_iast (pc2 := 51) hX (hK 19 0 0 (by decide) (by decide)) (fun _ => rfl) hc8 d_St_cost_50 rfl ?_
          refine sx_nm (fun σ9 e9 => ?_)
          replace h := h σ9 e9
          refine sx_aload_n (pc2 := 52) hX 0 d_St_cost_51 rfl rfl rfl ?_
          refine fg_St_47 (pc2 := 55) hX (hK 0 0 0 (by decide) (by decide)) d_St_cost_52 rfl ?_
          refine cl_St_138 (pc2 := 58) hX hK h (by decide) ⟨Nat.le_of_ble_eq_true rfl, Nat.le_of_ble_eq_true rfl⟩ (Nat.le_of_ble_eq_true rfl) d_St_cost_55 rfl (fun σ10 τ10 h => ?_)
          refine sx_iconst (v := 1) (pc2 := 59) hX d_St_cost_58 (by decide) rfl ?_
          exact sx_zret hX hE (by decide) h d_St_cost_59
        · replace h := sx_t h hc6
          refine sx_sub [] [] rfl ?_
          exact g_St_cost_b35 hX hK hE   _ _ h
def y_St_power : MethodName := ⟨"SensorTree", "power", "(IZ)Z"⟩
theorem hy_St_power : y_St_power.cls ≠ "java/lang/invoke/MethodHandle" ∧ y_St_power.cls ≠ "java/lang/invoke/VarHandle" ∧ (parseMethodDescriptor y_St_power.desc).map (fun d => d.parameters.length) = some 2 := by decide +kernel
theorem d_St_power_0 : decode prog_1_method_9_code 0 = .ok (.aload_n 0, 1) := by decide +kernel
theorem d_St_power_1 : decode prog_1_method_9_code 1 = .ok (.getfield 26, 3) := by decide +kernel
theorem d_St_power_4 : decode prog_1_method_9_code 4 = .ok (.iload_n 1, 1) := by decide +kernel
theorem d_St_power_5 : decode prog_1_method_9_code 5 = .ok (.invokevirtual 144, 3) := by decide +kernel
theorem d_St_power_8 : decode prog_1_method_9_code 8 = .ok (.ifCond .eq 23, 3) := by decide +kernel
theorem d_St_power_11 : decode prog_1_method_9_code 11 = .ok (.iload_n 1, 1) := by decide +kernel
theorem d_St_power_12 : decode prog_1_method_9_code 12 = .ok (.ifCond .eq 19, 3) := by decide +kernel
theorem d_St_power_15 : decode prog_1_method_9_code 15 = .ok (.aload_n 0, 1) := by decide +kernel
theorem d_St_power_16 : decode prog_1_method_9_code 16 = .ok (.getfield 35, 3) := by decide +kernel
theorem d_St_power_19 : decode prog_1_method_9_code 19 = .ok (.getfield 147, 3) := by decide +kernel
theorem d_St_power_22 : decode prog_1_method_9_code 22 = .ok (.iload_n 1, 1) := by decide +kernel
theorem d_St_power_23 : decode prog_1_method_9_code 23 = .ok (.aaload, 1) := by decide +kernel
theorem d_St_power_24 : decode prog_1_method_9_code 24 = .ok (.getfield 151, 3) := by decide +kernel
theorem d_St_power_27 : decode prog_1_method_9_code 27 = .ok (.iload_n 2, 1) := by decide +kernel
theorem d_St_power_28 : decode prog_1_method_9_code 28 = .ok (.if_icmp .ne 5, 3) := by decide +kernel
theorem d_St_power_31 : decode prog_1_method_9_code 31 = .ok (.iconst 0, 1) := by decide +kernel
theorem d_St_power_32 : decode prog_1_method_9_code 32 = .ok (.ireturn, 1) := by decide +kernel
theorem d_St_power_33 : decode prog_1_method_9_code 33 = .ok (.aload_n 0, 1) := by decide +kernel
theorem d_St_power_34 : decode prog_1_method_9_code 34 = .ok (.invokevirtual 119, 3) := by decide +kernel
theorem d_St_power_37 : decode prog_1_method_9_code 37 = .ok (.iload_n 2, 1) := by decide +kernel
theorem d_St_power_38 : decode prog_1_method_9_code 38 = .ok (.ifCond .eq 14, 3) := by decide +kernel
theorem d_St_power_41 : decode prog_1_method_9_code 41 = .ok (.aload_n 0, 1) := by decide +kernel
theorem d_St_power_42 : decode prog_1_method_9_code 42 = .ok (.getfield 47, 3) := by decide +kernel
theorem d_St_power_45 : decode prog_1_method_9_code 45 = .ok (.iload_n 1, 1) := by decide +kernel
theorem d_St_power_46 : decode prog_1_method_9_code 46 = .ok (.invokevirtual 157, 3) := by decide +kernel
theorem d_St_power_49 : decode prog_1_method_9_code 49 = .ok (.goto 16, 3) := by decide +kernel
theorem d_St_power_52 : decode prog_1_method_9_code 52 = .ok (.aload_n 0, 1) := by decide +kernel
theorem d_St_power_53 : decode prog_1_method_9_code 53 = .ok (.getfield 35, 3) := by decide +kernel
theorem d_St_power_56 : decode prog_1_method_9_code 56 = .ok (.getfield 147, 3) := by decide +kernel
theorem d_St_power_59 : decode prog_1_method_9_code 59 = .ok (.iload_n 1, 1) := by decide +kernel
theorem d_St_power_60 : decode prog_1_method_9_code 60 = .ok (.aaload, 1) := by decide +kernel
theorem d_St_power_61 : decode prog_1_method_9_code 61 = .ok (.iconst 0, 1) := by decide +kernel
theorem d_St_power_62 : decode prog_1_method_9_code 62 = .ok (.putfield 151, 3) := by decide +kernel
theorem d_St_power_65 : decode prog_1_method_9_code 65 = .ok (.aload_n 0, 1) := by decide +kernel
theorem d_St_power_66 : decode prog_1_method_9_code 66 = .ok (.getfield 47, 3) := by decide +kernel
theorem d_St_power_69 : decode prog_1_method_9_code 69 = .ok (.invokevirtual 138, 3) := by decide +kernel
theorem d_St_power_72 : decode prog_1_method_9_code 72 = .ok (.iconst 1, 1) := by decide +kernel
theorem d_St_power_73 : decode prog_1_method_9_code 73 = .ok (.ireturn, 1) := by decide +kernel
def wp_St_power_b65   (Q : Int32 → sx_M → Prop)  (σ : sx_M) : Prop := wp_En_allChoose 0 σ (fun σ1 => Q 1 σ1)
def wp_St_power_b31   (Q : Int32 → sx_M → Prop)  (σ : sx_M) : Prop := Q 0 σ
def wp_St_power (x1 : Int32) (x2 : Int32) (σ : sx_M) (Q : Int32 → sx_M → Prop) : Prop := wp_Pl_isPost 0 x1 σ (fun r2 σ2 => if r2 = 0 then (wp_St_power_b31 Q σ2) else (if x1 = 0 then (wp_St_power_b31 Q σ2) else (vp_in x1 7 ∧ (if σ2 27 0 x1.toNatClampNeg 0 = x2 then (wp_St_power_b31 Q σ2) else (wp_St_remember σ2 (fun σ7 => if x2 = 0 then (vp_in x1 7 ∧ (∀ σ10 : sx_M, σ10 = sx_u σ7 27 0 x1.toNatClampNeg 0 0 → (wp_St_power_b65 Q σ10))) else (wp_En_beginPost 0 x1 σ7 (fun σ11 => wp_St_power_b65 Q σ11))))))))
abbrev rm_St_power : Room := { frames := 5, cells := 0, slots := 0, locals := 117 }
set_option maxRecDepth 100000 in
set_option maxHeartbeats 4000000 in
theorem g_St_power_b65 {l : Launch} {K : sx_K} {X : sx_T}   {Q : Int32 → sx_M → Prop} (hX : sx_C X K prog_1_method_9_code 3 "SensorTree" (some .boolean) rm_St_power l) (hK : kx_C K) (hE : sx_E X K (sx_Qi K (fun r σ _ => Q r σ)))   (σ : sx_M) (τ : sx_L)  (h : wp_St_power_b65 Q  σ) : sx_G X K 3 65 [(0, .ref (K.2.2.1 0 0 0))] [] (sx_H K σ τ) := by
  unfold wp_St_power_b65 at h
  refine sx_aload_n (pc2 := 66) hX 0 d_St_power_65 rfl rfl rfl ?_
  refine fg_St_47 (pc2 := 69) hX (hK 0 0 0 (by decide) (by decide)) d_St_power_66 rfl ?_
  refine cl_St_138 (pc2 := 72) hX hK h (by decide) ⟨Nat.le_of_ble_eq_true rfl, Nat.le_of_ble_eq_true rfl⟩ (Nat.le_of_ble_eq_true rfl) d_St_power_69 rfl (fun σ1 τ1 h => ?_)
  refine sx_iconst (v := 1) (pc2 := 73) hX d_St_power_72 (by decide) rfl ?_
  exact sx_zret hX hE (by decide) h d_St_power_73
set_option maxRecDepth 100000 in
set_option maxHeartbeats 4000000 in
theorem g_St_power_b31 {l : Launch} {K : sx_K} {X : sx_T}   {Q : Int32 → sx_M → Prop} (hX : sx_C X K prog_1_method_9_code 3 "SensorTree" (some .boolean) rm_St_power l) (hK : kx_C K) (hE : sx_E X K (sx_Qi K (fun r σ _ => Q r σ)))   (σ : sx_M) (τ : sx_L)  (h : wp_St_power_b31 Q  σ) : sx_G X K 3 31 [] [] (sx_H K σ τ) := by
  unfold wp_St_power_b31 at h
  refine sx_iconst (v := 0) (pc2 := 32) hX d_St_power_31 (by decide) rfl ?_
  exact sx_zret hX hE (by decide) h d_St_power_32
set_option maxRecDepth 100000 in
set_option maxHeartbeats 4000000 in
theorem c_St_power {l : Launch} {K : sx_K} (hK : kx_C K) (x1 : Int32) (x2 : Int32) (σ : sx_M) (τ : sx_L) (Q : Int32 → sx_M → Prop)  (h : wp_St_power x1 x2 σ Q) : Met l y_St_power (sx_wd y_St_power prog_1_method_9_code 3 (some .boolean)) rm_St_power (sx_Pc K [.ref (K.2.2.1 0 0 0), .int x1, .int x2] σ τ) (sx_Qi K (fun r σ _ => Q r σ)) 0 0 (sx_A K) := by
  refine sx_met (by decide) (Nat.le_of_ble_eq_true rfl) (fun X hX hE => ?_)
  replace hX : sx_C X K prog_1_method_9_code 3 "SensorTree" (some .boolean) rm_St_power l := hX
  show sx_G X K 3 0 [(0, .ref (K.2.2.1 0 0 0)), (1, .int x1), (2, .int x2)] [] (sx_H K σ τ)
  unfold wp_St_power at h
  refine sx_aload_n (pc2 := 1) hX 0 d_St_power_0 rfl rfl rfl ?_
  refine fg_St_26 (pc2 := 4) hX (hK 0 0 0 (by decide) (by decide)) d_St_power_1 rfl ?_
  refine sx_iload_n (pc2 := 5) hX 1 d_St_power_4 rfl rfl rfl ?_
  refine cl_St_144 (pc2 := 8) hX hK h (by decide) ⟨Nat.le_of_ble_eq_true rfl, Nat.le_of_ble_eq_true rfl⟩ (Nat.le_of_ble_eq_true rfl) d_St_power_5 rfl (fun r2 σ2 τ2 h => ?_)
  refine sx_if_eq (tgt := 31) (pc2 := 11) hX d_St_power_8 (by decide) rfl (fun hc3 => ?_) (fun hc3 => ?_)
  · replace h := sx_t h hc3
    refine sx_sub [] [] rfl ?_
    exact g_St_power_b31 hX hK hE   _ _ h
  · replace h := sx_f h hc3
    refine sx_iload_n (pc2 := 12) hX 1 d_St_power_11 rfl rfl rfl ?_
    refine sx_if_eq (tgt := 31) (pc2 := 15) hX d_St_power_12 (by decide) rfl (fun hc4 => ?_) (fun hc4 => ?_)
    · replace h := sx_t h hc4
      refine sx_sub [] [] rfl ?_
      exact g_St_power_b31 hX hK hE   _ _ h
    · replace h := sx_f h hc4
      refine sx_aload_n (pc2 := 16) hX 0 d_St_power_15 rfl rfl rfl ?_
      refine fg_St_35 (pc2 := 19) hX (hK 0 0 0 (by decide) (by decide)) d_St_power_16 rfl ?_
      refine fg_St_147 (pc2 := 22) hX (hK 16 0 0 (by decide) (by decide)) d_St_power_19 rfl ?_
      refine sx_iload_n (pc2 := 23) hX 1 d_St_power_22 rfl rfl rfl ?_
      obtain ⟨hc5, h⟩ := h
      refine sx_aald (a := K.2.2.1 27 0 x1.toNatClampNeg) (pc2 := 24) hX (hK 17 0 0 (by decide) (by decide)) 4 rfl rfl rfl hc5 d_St_power_23 rfl ?_
      refine fg_St_151 (pc2 := 27) hX (hK 27 0 x1.toNatClampNeg (by decide) (sx_lt hc5)) d_St_power_24 rfl ?_
      refine sx_iload_n (pc2 := 28) hX 2 d_St_power_27 rfl rfl rfl ?_
      refine sx_icmp_ne (tgt := 33) (pc2 := 31) hX d_St_power_28 (by decide) rfl (fun hc6 => ?_) (fun hc6 => ?_)
      · replace h := sx_f h hc6
        refine sx_aload_n (pc2 := 34) hX 0 d_St_power_33 rfl rfl rfl ?_
        refine cl_St_119 (pc2 := 37) hX hK h  ⟨Nat.le_of_ble_eq_true rfl, Nat.le_of_ble_eq_true rfl⟩ (Nat.le_of_ble_eq_true rfl) d_St_power_34 rfl (fun σ7 τ7 h => ?_)
        refine sx_iload_n (pc2 := 38) hX 2 d_St_power_37 rfl rfl rfl ?_
        refine sx_if_eq (tgt := 52) (pc2 := 41) hX d_St_power_38 (by decide) rfl (fun hc8 => ?_) (fun hc8 => ?_)
        · replace h := sx_t h hc8
          refine sx_aload_n (pc2 := 53) hX 0 d_St_power_52 rfl rfl rfl ?_
          refine fg_St_35 (pc2 := 56) hX (hK 0 0 0 (by decide) (by decide)) d_St_power_53 rfl ?_
          refine fg_St_147 (pc2 := 59) hX (hK 16 0 0 (by decide) (by decide)) d_St_power_56 rfl ?_
          refine sx_iload_n (pc2 := 60) hX 1 d_St_power_59 rfl rfl rfl ?_
          obtain ⟨hc9, h⟩ := h
          refine sx_aald (a := K.2.2.1 27 0 x1.toNatClampNeg) (pc2 := 61) hX (hK 17 0 0 (by decide) (by decide)) 4 rfl rfl rfl hc9 d_St_power_60 rfl ?_
          refine sx_iconst (v := 0) (pc2 := 62) hX d_St_power_61 (by decide) rfl ?_
          refine fp_St_151 (pc2 := 65) hX (by decide) (hK 27 0 x1.toNatClampNeg (by decide) (sx_lt hc9)) d_St_power_62 rfl ?_
          refine sx_nm (fun σ10 e10 => ?_)
          replace h := h σ10 e10
          refine sx_sub [(0, .ref (K.2.2.1 0 0 0))] [0] rfl ?_
          exact g_St_power_b65 hX hK hE   _ _ h
        · replace h := sx_f h hc8
          refine sx_aload_n (pc2 := 42) hX 0 d_St_power_41 rfl rfl rfl ?_
          refine fg_St_47 (pc2 := 45) hX (hK 0 0 0 (by decide) (by decide)) d_St_power_42 rfl ?_
          refine sx_iload_n (pc2 := 46) hX 1 d_St_power_45 rfl rfl rfl ?_
          refine cl_St_157 (pc2 := 49) hX hK h (by decide) ⟨Nat.le_of_ble_eq_true rfl, Nat.le_of_ble_eq_true rfl⟩ (Nat.le_of_ble_eq_true rfl) d_St_power_46 rfl (fun σ11 τ11 h => ?_)
          refine sx_goto (tgt := 65) hX d_St_power_49 (by decide) ?_
          refine sx_sub [(0, .ref (K.2.2.1 0 0 0))] [0] rfl ?_
          exact g_St_power_b65 hX hK hE   _ _ h
      · replace h := sx_t h hc6
        refine sx_sub [] [] rfl ?_
        exact g_St_power_b31 hX hK hE   _ _ h
def y_St_repair : MethodName := ⟨"SensorTree", "repair", "()I"⟩
theorem hy_St_repair : y_St_repair.cls ≠ "java/lang/invoke/MethodHandle" ∧ y_St_repair.cls ≠ "java/lang/invoke/VarHandle" ∧ (parseMethodDescriptor y_St_repair.desc).map (fun d => d.parameters.length) = some 0 := by decide +kernel
theorem d_St_repair_0 : decode prog_1_method_10_code 0 = .ok (.aload_n 0, 1) := by decide +kernel
theorem d_St_repair_1 : decode prog_1_method_10_code 1 = .ok (.getfield 26, 3) := by decide +kernel
theorem d_St_repair_4 : decode prog_1_method_10_code 4 = .ok (.getfield 160, 3) := by decide +kernel
theorem d_St_repair_7 : decode prog_1_method_10_code 7 = .ok (.ifCond .eq 20, 3) := by decide +kernel
theorem d_St_repair_10 : decode prog_1_method_10_code 10 = .ok (.aload_n 0, 1) := by decide +kernel
theorem d_St_repair_11 : decode prog_1_method_10_code 11 = .ok (.getfield 35, 3) := by decide +kernel
theorem d_St_repair_14 : decode prog_1_method_10_code 14 = .ok (.getfield 147, 3) := by decide +kernel
theorem d_St_repair_17 : decode prog_1_method_10_code 17 = .ok (.iconst 0, 1) := by decide +kernel
theorem d_St_repair_18 : decode prog_1_method_10_code 18 = .ok (.aaload, 1) := by decide +kernel
theorem d_St_repair_19 : decode prog_1_method_10_code 19 = .ok (.getfield 162, 3) := by decide +kernel
theorem d_St_repair_22 : decode prog_1_method_10_code 22 = .ok (.bipush 99, 2) := by decide +kernel
theorem d_St_repair_24 : decode prog_1_method_10_code 24 = .ok (.if_icmp .lt 5, 3) := by decide +kernel
theorem d_St_repair_27 : decode prog_1_method_10_code 27 = .ok (.iconst (-1), 1) := by decide +kernel
theorem d_St_repair_28 : decode prog_1_method_10_code 28 = .ok (.ireturn, 1) := by decide +kernel
theorem d_St_repair_29 : decode prog_1_method_10_code 29 = .ok (.aload_n 0, 1) := by decide +kernel
theorem d_St_repair_30 : decode prog_1_method_10_code 30 = .ok (.invokevirtual 119, 3) := by decide +kernel
theorem d_St_repair_33 : decode prog_1_method_10_code 33 = .ok (.aload_n 0, 1) := by decide +kernel
theorem d_St_repair_34 : decode prog_1_method_10_code 34 = .ok (.getfield 35, 3) := by decide +kernel
theorem d_St_repair_37 : decode prog_1_method_10_code 37 = .ok (.getfield 147, 3) := by decide +kernel
theorem d_St_repair_40 : decode prog_1_method_10_code 40 = .ok (.iconst 0, 1) := by decide +kernel
theorem d_St_repair_41 : decode prog_1_method_10_code 41 = .ok (.aaload, 1) := by decide +kernel
theorem d_St_repair_42 : decode prog_1_method_10_code 42 = .ok (.dup, 1) := by decide +kernel
theorem d_St_repair_43 : decode prog_1_method_10_code 43 = .ok (.getfield 162, 3) := by decide +kernel
theorem d_St_repair_46 : decode prog_1_method_10_code 46 = .ok (.iconst 1, 1) := by decide +kernel
theorem d_St_repair_47 : decode prog_1_method_10_code 47 = .ok (.iadd, 1) := by decide +kernel
theorem d_St_repair_48 : decode prog_1_method_10_code 48 = .ok (.putfield 162, 3) := by decide +kernel
theorem d_St_repair_51 : decode prog_1_method_10_code 51 = .ok (.aload_n 0, 1) := by decide +kernel
theorem d_St_repair_52 : decode prog_1_method_10_code 52 = .ok (.getfield 47, 3) := by decide +kernel
theorem d_St_repair_55 : decode prog_1_method_10_code 55 = .ok (.iconst 0, 1) := by decide +kernel
theorem d_St_repair_56 : decode prog_1_method_10_code 56 = .ok (.invokevirtual 165, 3) := by decide +kernel
theorem d_St_repair_59 : decode prog_1_method_10_code 59 = .ok (.aload_n 0, 1) := by decide +kernel
theorem d_St_repair_60 : decode prog_1_method_10_code 60 = .ok (.getfield 35, 3) := by decide +kernel
theorem d_St_repair_63 : decode prog_1_method_10_code 63 = .ok (.getfield 147, 3) := by decide +kernel
theorem d_St_repair_66 : decode prog_1_method_10_code 66 = .ok (.iconst 0, 1) := by decide +kernel
theorem d_St_repair_67 : decode prog_1_method_10_code 67 = .ok (.aaload, 1) := by decide +kernel
theorem d_St_repair_68 : decode prog_1_method_10_code 68 = .ok (.getfield 162, 3) := by decide +kernel
theorem d_St_repair_71 : decode prog_1_method_10_code 71 = .ok (.ireturn, 1) := by decide +kernel
def wp_St_repair_b27   (Q : Int32 → sx_M → Prop)  (σ : sx_M) : Prop := Q (-1) σ
def wp_St_repair  (σ : sx_M) (Q : Int32 → sx_M → Prop) : Prop := if σ 8 0 0 0 = 0 then (wp_St_repair_b27 Q σ) else (vp_in 0 7 ∧ (if σ 27 0 ((0 : Int32).toNatClampNeg) 1 < 99 then (wp_St_remember σ (fun σ4 => vp_in 0 7 ∧ (∀ σ6 : sx_M, σ6 = sx_u σ4 27 0 ((0 : Int32).toNatClampNeg) 1 ((σ4 27 0 ((0 : Int32).toNatClampNeg) 1) + 1) → (wp_En_beginAnew 0 (0 : Int32) σ6 (fun σ7 => vp_in 0 7 ∧ (Q (σ7 27 0 ((0 : Int32).toNatClampNeg) 1) σ7)))))) else (wp_St_repair_b27 Q σ)))
abbrev rm_St_repair : Room := { frames := 4, cells := 0, slots := 0, locals := 81 }
set_option maxRecDepth 100000 in
set_option maxHeartbeats 4000000 in
theorem g_St_repair_b27 {l : Launch} {K : sx_K} {X : sx_T}   {Q : Int32 → sx_M → Prop} (hX : sx_C X K prog_1_method_10_code 1 "SensorTree" (some .int) rm_St_repair l) (hK : kx_C K) (hE : sx_E X K (sx_Qi K (fun r σ _ => Q r σ)))   (σ : sx_M) (τ : sx_L)  (h : wp_St_repair_b27 Q  σ) : sx_G X K 1 27 [] [] (sx_H K σ τ) := by
  unfold wp_St_repair_b27 at h
  refine sx_iconst (v := (-1)) (pc2 := 28) hX d_St_repair_27 (by decide) rfl ?_
  exact sx_iret hX hE h d_St_repair_28
set_option maxRecDepth 100000 in
set_option maxHeartbeats 4000000 in
theorem c_St_repair {l : Launch} {K : sx_K} (hK : kx_C K)  (σ : sx_M) (τ : sx_L) (Q : Int32 → sx_M → Prop)  (h : wp_St_repair σ Q) : Met l y_St_repair (sx_wd y_St_repair prog_1_method_10_code 1 (some .int)) rm_St_repair (sx_Pc K [.ref (K.2.2.1 0 0 0)] σ τ) (sx_Qi K (fun r σ _ => Q r σ)) 0 0 (sx_A K) := by
  refine sx_met (by decide) (Nat.le_of_ble_eq_true rfl) (fun X hX hE => ?_)
  replace hX : sx_C X K prog_1_method_10_code 1 "SensorTree" (some .int) rm_St_repair l := hX
  show sx_G X K 1 0 [(0, .ref (K.2.2.1 0 0 0))] [] (sx_H K σ τ)
  unfold wp_St_repair at h
  refine sx_aload_n (pc2 := 1) hX 0 d_St_repair_0 rfl rfl rfl ?_
  refine fg_St_26 (pc2 := 4) hX (hK 0 0 0 (by decide) (by decide)) d_St_repair_1 rfl ?_
  refine fg_St_160 (pc2 := 7) hX (hK 8 0 0 (by decide) (by decide)) d_St_repair_4 rfl ?_
  refine sx_if_eq (tgt := 27) (pc2 := 10) hX d_St_repair_7 (by decide) rfl (fun hc1 => ?_) (fun hc1 => ?_)
  · replace h := sx_t h hc1
    refine sx_sub [] [] rfl ?_
    exact g_St_repair_b27 hX hK hE   _ _ h
  · replace h := sx_f h hc1
    refine sx_aload_n (pc2 := 11) hX 0 d_St_repair_10 rfl rfl rfl ?_
    refine fg_St_35 (pc2 := 14) hX (hK 0 0 0 (by decide) (by decide)) d_St_repair_11 rfl ?_
    refine fg_St_147 (pc2 := 17) hX (hK 16 0 0 (by decide) (by decide)) d_St_repair_14 rfl ?_
    refine sx_iconst (v := 0) (pc2 := 18) hX d_St_repair_17 (by decide) rfl ?_
    obtain ⟨hc2, h⟩ := h
    refine sx_aald (a := K.2.2.1 27 0 ((0 : Int32).toNatClampNeg)) (pc2 := 19) hX (hK 17 0 0 (by decide) (by decide)) 4 rfl rfl rfl hc2 d_St_repair_18 rfl ?_
    refine fg_St_162 (pc2 := 22) hX (hK 27 0 ((0 : Int32).toNatClampNeg) (by decide) (sx_lt hc2)) d_St_repair_19 rfl ?_
    refine sx_bipush (v := 99) (pc2 := 24) hX d_St_repair_22 (by decide) rfl ?_
    refine sx_icmp_lt (tgt := 29) (pc2 := 27) hX d_St_repair_24 (by decide) rfl (fun hc3 => ?_) (fun hc3 => ?_)
    · replace h := sx_t h hc3
      refine sx_aload_n (pc2 := 30) hX 0 d_St_repair_29 rfl rfl rfl ?_
      refine cl_St_119 (pc2 := 33) hX hK h  ⟨Nat.le_of_ble_eq_true rfl, Nat.le_of_ble_eq_true rfl⟩ (Nat.le_of_ble_eq_true rfl) d_St_repair_30 rfl (fun σ4 τ4 h => ?_)
      refine sx_aload_n (pc2 := 34) hX 0 d_St_repair_33 rfl rfl rfl ?_
      refine fg_St_35 (pc2 := 37) hX (hK 0 0 0 (by decide) (by decide)) d_St_repair_34 rfl ?_
      refine fg_St_147 (pc2 := 40) hX (hK 16 0 0 (by decide) (by decide)) d_St_repair_37 rfl ?_
      refine sx_iconst (v := 0) (pc2 := 41) hX d_St_repair_40 (by decide) rfl ?_
      obtain ⟨hc5, h⟩ := h
      refine sx_aald (a := K.2.2.1 27 0 ((0 : Int32).toNatClampNeg)) (pc2 := 42) hX (hK 17 0 0 (by decide) (by decide)) 4 rfl rfl rfl hc5 d_St_repair_41 rfl ?_
      refine sx_dup (pc2 := 43) hX d_St_repair_42 rfl rfl ?_
      refine fg_St_162 (pc2 := 46) hX (hK 27 0 ((0 : Int32).toNatClampNeg) (by decide) (sx_lt hc5)) d_St_repair_43 rfl ?_
      refine sx_iconst (v := 1) (pc2 := 47) hX d_St_repair_46 (by decide) rfl ?_
      refine sx_iadd (pc2 := 48) hX d_St_repair_47 rfl ?_
      refine fp_St_162 (pc2 := 51) hX (hK 27 0 ((0 : Int32).toNatClampNeg) (by decide) (sx_lt hc5)) d_St_repair_48 rfl ?_
      refine sx_nm (fun σ6 e6 => ?_)
      replace h := h σ6 e6
      refine sx_aload_n (pc2 := 52) hX 0 d_St_repair_51 rfl rfl rfl ?_
      refine fg_St_47 (pc2 := 55) hX (hK 0 0 0 (by decide) (by decide)) d_St_repair_52 rfl ?_
      refine sx_iconst (v := 0) (pc2 := 56) hX d_St_repair_55 (by decide) rfl ?_
      refine cl_St_165 (pc2 := 59) hX hK h (by decide) ⟨Nat.le_of_ble_eq_true rfl, Nat.le_of_ble_eq_true rfl⟩ (Nat.le_of_ble_eq_true rfl) d_St_repair_56 rfl (fun σ7 τ7 h => ?_)
      refine sx_aload_n (pc2 := 60) hX 0 d_St_repair_59 rfl rfl rfl ?_
      refine fg_St_35 (pc2 := 63) hX (hK 0 0 0 (by decide) (by decide)) d_St_repair_60 rfl ?_
      refine fg_St_147 (pc2 := 66) hX (hK 16 0 0 (by decide) (by decide)) d_St_repair_63 rfl ?_
      refine sx_iconst (v := 0) (pc2 := 67) hX d_St_repair_66 (by decide) rfl ?_
      obtain ⟨hc8, h⟩ := h
      refine sx_aald (a := K.2.2.1 27 0 ((0 : Int32).toNatClampNeg)) (pc2 := 68) hX (hK 17 0 0 (by decide) (by decide)) 4 rfl rfl rfl hc8 d_St_repair_67 rfl ?_
      refine fg_St_162 (pc2 := 71) hX (hK 27 0 ((0 : Int32).toNatClampNeg) (by decide) (sx_lt hc8)) d_St_repair_68 rfl ?_
      exact sx_iret hX hE h d_St_repair_71
    · replace h := sx_f h hc3
      refine sx_sub [] [] rfl ?_
      exact g_St_repair_b27 hX hK hE   _ _ h
def y_St_areTwoPosts : MethodName := ⟨"SensorTree", "areTwoPosts", "(II)Z"⟩
theorem hy_St_areTwoPosts : y_St_areTwoPosts.cls ≠ "java/lang/invoke/MethodHandle" ∧ y_St_areTwoPosts.cls ≠ "java/lang/invoke/VarHandle" ∧ (parseMethodDescriptor y_St_areTwoPosts.desc).map (fun d => d.parameters.length) = some 2 := by decide +kernel
theorem d_St_areTwoPosts_0 : decode prog_1_method_41_code 0 = .ok (.aload_n 0, 1) := by decide +kernel
theorem d_St_areTwoPosts_1 : decode prog_1_method_41_code 1 = .ok (.getfield 26, 3) := by decide +kernel
theorem d_St_areTwoPosts_4 : decode prog_1_method_41_code 4 = .ok (.iload_n 1, 1) := by decide +kernel
theorem d_St_areTwoPosts_5 : decode prog_1_method_41_code 5 = .ok (.invokevirtual 144, 3) := by decide +kernel
theorem d_St_areTwoPosts_8 : decode prog_1_method_41_code 8 = .ok (.ifCond .eq 23, 3) := by decide +kernel
theorem d_St_areTwoPosts_11 : decode prog_1_method_41_code 11 = .ok (.aload_n 0, 1) := by decide +kernel
theorem d_St_areTwoPosts_12 : decode prog_1_method_41_code 12 = .ok (.getfield 26, 3) := by decide +kernel
theorem d_St_areTwoPosts_15 : decode prog_1_method_41_code 15 = .ok (.iload_n 2, 1) := by decide +kernel
theorem d_St_areTwoPosts_16 : decode prog_1_method_41_code 16 = .ok (.invokevirtual 144, 3) := by decide +kernel
theorem d_St_areTwoPosts_19 : decode prog_1_method_41_code 19 = .ok (.ifCond .eq 12, 3) := by decide +kernel
theorem d_St_areTwoPosts_22 : decode prog_1_method_41_code 22 = .ok (.iload_n 1, 1) := by decide +kernel
theorem d_St_areTwoPosts_23 : decode prog_1_method_41_code 23 = .ok (.iload_n 2, 1) := by decide +kernel
theorem d_St_areTwoPosts_24 : decode prog_1_method_41_code 24 = .ok (.if_icmp .eq 7, 3) := by decide +kernel
theorem d_St_areTwoPosts_27 : decode prog_1_method_41_code 27 = .ok (.iconst 1, 1) := by decide +kernel
theorem d_St_areTwoPosts_28 : decode prog_1_method_41_code 28 = .ok (.goto 4, 3) := by decide +kernel
theorem d_St_areTwoPosts_31 : decode prog_1_method_41_code 31 = .ok (.iconst 0, 1) := by decide +kernel
theorem d_St_areTwoPosts_32 : decode prog_1_method_41_code 32 = .ok (.ireturn, 1) := by decide +kernel
def wp_St_areTwoPosts_b32   (Q : Int32 → sx_M → Prop) (w0 : Int32) (σ : sx_M) : Prop := (w0 = 0 ∨ w0 = 1) ∧ (Q w0 σ)
def wp_St_areTwoPosts_b31   (Q : Int32 → sx_M → Prop)  (σ : sx_M) : Prop := wp_St_areTwoPosts_b32 Q 0 σ
def wp_St_areTwoPosts (x1 : Int32) (x2 : Int32) (σ : sx_M) (Q : Int32 → sx_M → Prop) : Prop := wp_Pl_isPost 0 x1 σ (fun r2 σ2 => if r2 = 0 then (wp_St_areTwoPosts_b31 Q σ2) else (wp_Pl_isPost 0 x2 σ2 (fun r4 σ4 => if r4 = 0 then (wp_St_areTwoPosts_b31 Q σ4) else (if x1 = x2 then (wp_St_areTwoPosts_b31 Q σ4) else (wp_St_areTwoPosts_b32 Q 1 σ4)))))
abbrev rm_St_areTwoPosts : Room := { frames := 1, cells := 0, slots := 0, locals := 21 }
set_option maxRecDepth 100000 in
set_option maxHeartbeats 4000000 in
theorem g_St_areTwoPosts_b32 {l : Launch} {K : sx_K} {X : sx_T}   {Q : Int32 → sx_M → Prop} (hX : sx_C X K prog_1_method_41_code 3 "SensorTree" (some .boolean) rm_St_areTwoPosts l) (hK : kx_C K) (hE : sx_E X K (sx_Qi K (fun r σ _ => Q r σ)))  (w0 : Int32) (σ : sx_M) (τ : sx_L)  (h : wp_St_areTwoPosts_b32 Q  w0 σ) : sx_G X K 3 32 [] [.int w0] (sx_H K σ τ) := by
  unfold wp_St_areTwoPosts_b32 at h
  obtain ⟨hc1, h⟩ := h
  exact sx_zret hX hE hc1 h d_St_areTwoPosts_32
set_option maxRecDepth 100000 in
set_option maxHeartbeats 4000000 in
theorem g_St_areTwoPosts_b31 {l : Launch} {K : sx_K} {X : sx_T}   {Q : Int32 → sx_M → Prop} (hX : sx_C X K prog_1_method_41_code 3 "SensorTree" (some .boolean) rm_St_areTwoPosts l) (hK : kx_C K) (hE : sx_E X K (sx_Qi K (fun r σ _ => Q r σ)))   (σ : sx_M) (τ : sx_L)  (h : wp_St_areTwoPosts_b31 Q  σ) : sx_G X K 3 31 [] [] (sx_H K σ τ) := by
  unfold wp_St_areTwoPosts_b31 at h
  refine sx_iconst (v := 0) (pc2 := 32) hX d_St_areTwoPosts_31 (by decide) rfl ?_
  exact g_St_areTwoPosts_b32 hX hK hE   0 _ _ h
set_option maxRecDepth 100000 in
set_option maxHeartbeats 4000000 in
theorem c_St_areTwoPosts {l : Launch} {K : sx_K} (hK : kx_C K) (x1 : Int32) (x2 : Int32) (σ : sx_M) (τ : sx_L) (Q : Int32 → sx_M → Prop)  (h : wp_St_areTwoPosts x1 x2 σ Q) : Met l y_St_areTwoPosts (sx_wd y_St_areTwoPosts prog_1_method_41_code 3 (some .boolean)) rm_St_areTwoPosts (sx_Pc K [.ref (K.2.2.1 0 0 0), .int x1, .int x2] σ τ) (sx_Qi K (fun r σ _ => Q r σ)) 0 0 (sx_A K) := by
  refine sx_met (by decide) (Nat.le_of_ble_eq_true rfl) (fun X hX hE => ?_)
  replace hX : sx_C X K prog_1_method_41_code 3 "SensorTree" (some .boolean) rm_St_areTwoPosts l := hX
  show sx_G X K 3 0 [(0, .ref (K.2.2.1 0 0 0)), (1, .int x1), (2, .int x2)] [] (sx_H K σ τ)
  unfold wp_St_areTwoPosts at h
  refine sx_aload_n (pc2 := 1) hX 0 d_St_areTwoPosts_0 rfl rfl rfl ?_
  refine fg_St_26 (pc2 := 4) hX (hK 0 0 0 (by decide) (by decide)) d_St_areTwoPosts_1 rfl ?_
  refine sx_iload_n (pc2 := 5) hX 1 d_St_areTwoPosts_4 rfl rfl rfl ?_
  refine cl_St_144 (pc2 := 8) hX hK h (by decide) ⟨Nat.le_of_ble_eq_true rfl, Nat.le_of_ble_eq_true rfl⟩ (Nat.le_of_ble_eq_true rfl) d_St_areTwoPosts_5 rfl (fun r2 σ2 τ2 h => ?_)
  refine sx_if_eq (tgt := 31) (pc2 := 11) hX d_St_areTwoPosts_8 (by decide) rfl (fun hc3 => ?_) (fun hc3 => ?_)
  · replace h := sx_t h hc3
    refine sx_sub [] [] rfl ?_
    exact g_St_areTwoPosts_b31 hX hK hE   _ _ h
  · replace h := sx_f h hc3
    refine sx_aload_n (pc2 := 12) hX 0 d_St_areTwoPosts_11 rfl rfl rfl ?_
    refine fg_St_26 (pc2 := 15) hX (hK 0 0 0 (by decide) (by decide)) d_St_areTwoPosts_12 rfl ?_
    refine sx_iload_n (pc2 := 16) hX 2 d_St_areTwoPosts_15 rfl rfl rfl ?_
    refine cl_St_144 (pc2 := 19) hX hK h (by decide) ⟨Nat.le_of_ble_eq_true rfl, Nat.le_of_ble_eq_true rfl⟩ (Nat.le_of_ble_eq_true rfl) d_St_areTwoPosts_16 rfl (fun r4 σ4 τ4 h => ?_)
    refine sx_if_eq (tgt := 31) (pc2 := 22) hX d_St_areTwoPosts_19 (by decide) rfl (fun hc5 => ?_) (fun hc5 => ?_)
    · replace h := sx_t h hc5
      refine sx_sub [] [] rfl ?_
      exact g_St_areTwoPosts_b31 hX hK hE   _ _ h
    · replace h := sx_f h hc5
      refine sx_iload_n (pc2 := 23) hX 1 d_St_areTwoPosts_22 rfl rfl rfl ?_
      refine sx_iload_n (pc2 := 24) hX 2 d_St_areTwoPosts_23 rfl rfl rfl ?_
      refine sx_icmp_eq (tgt := 31) (pc2 := 27) hX d_St_areTwoPosts_24 (by decide) rfl (fun hc6 => ?_) (fun hc6 => ?_)
      · replace h := sx_t h hc6
        refine sx_sub [] [] rfl ?_
        exact g_St_areTwoPosts_b31 hX hK hE   _ _ h
      · replace h := sx_f h hc6
        refine sx_iconst (v := 1) (pc2 := 28) hX d_St_areTwoPosts_27 (by decide) rfl ?_
        refine sx_goto (tgt := 32) hX d_St_areTwoPosts_28 (by decide) ?_
        refine sx_sub [] [] rfl ?_
        exact g_St_areTwoPosts_b32 hX hK hE   1 _ _ h
theorem cl_St_197 {X : sx_T} {K : sx_K} {cc : ByteArray} {nL : Nat} {ret : Option FieldType} {rm : Room} {l : Launch} {pc pc2 : Nat} {lv : List (Nat × Value)} {st : List Value} {σ : sx_M} {τ : sx_L} {x1 : Int32} {x2 : Int32} {Q : Int32 → sx_M → Prop} (hX : sx_C X K cc nL "SensorTree" ret rm l) (hK : kx_C K) (h : wp_St_areTwoPosts x1 x2 σ Q)  (hR : rm_St_areTwoPosts.frames + 1 ≤ rm.frames ∧ 8 + (3 + 11) + rm_St_areTwoPosts.locals ≤ rm.locals) (hst : (st.map fun v => v.category).sum ≤ 8) (hd : decode cc pc = .ok (.invokevirtual 197, 3)) (hpc : pc + 3 = pc2) (kk : ∀ (r : Int32) (σ2 : sx_M) (τ2 : sx_L), Q r σ2 → sx_G X K nL pc2 lv (.int r :: st) (sx_H K σ2 τ2)) : sx_G X K nL pc lv (.int x2 :: .int x1 :: .ref (K.2.2.1 0 0 0) :: st) (sx_H K σ τ) :=
  sx_callVi (Q := fun r σ _ => Q r σ) (As := [.int x1, .int x2]) hX (c_St_areTwoPosts hK x1 x2 σ τ Q  h) (hK 0 0 0 (by decide) (by decide)) rfl rfl lk_295 ls_30 hy_St_areTwoPosts lk_293 lk_260 lk_294 ⟨rfl, rfl⟩ hR hst rfl hd hpc kk
def y_St_isOn : MethodName := ⟨"SensorTree", "isOn", "(I)Z"⟩
theorem hy_St_isOn : y_St_isOn.cls ≠ "java/lang/invoke/MethodHandle" ∧ y_St_isOn.cls ≠ "java/lang/invoke/VarHandle" ∧ (parseMethodDescriptor y_St_isOn.desc).map (fun d => d.parameters.length) = some 1 := by decide +kernel
theorem d_St_isOn_0 : decode prog_1_method_40_code 0 = .ok (.aload_n 0, 1) := by decide +kernel
theorem d_St_isOn_1 : decode prog_1_method_40_code 1 = .ok (.getfield 26, 3) := by decide +kernel
theorem d_St_isOn_4 : decode prog_1_method_40_code 4 = .ok (.iload_n 1, 1) := by decide +kernel
theorem d_St_isOn_5 : decode prog_1_method_40_code 5 = .ok (.invokevirtual 144, 3) := by decide +kernel
theorem d_St_isOn_8 : decode prog_1_method_40_code 8 = .ok (.ifCond .eq 22, 3) := by decide +kernel
theorem d_St_isOn_11 : decode prog_1_method_40_code 11 = .ok (.aload_n 0, 1) := by decide +kernel
theorem d_St_isOn_12 : decode prog_1_method_40_code 12 = .ok (.getfield 35, 3) := by decide +kernel
theorem d_St_isOn_15 : decode prog_1_method_40_code 15 = .ok (.getfield 147, 3) := by decide +kernel
theorem d_St_isOn_18 : decode prog_1_method_40_code 18 = .ok (.iload_n 1, 1) := by decide +kernel
theorem d_St_isOn_19 : decode prog_1_method_40_code 19 = .ok (.aaload, 1) := by decide +kernel
theorem d_St_isOn_20 : decode prog_1_method_40_code 20 = .ok (.getfield 151, 3) := by decide +kernel
theorem d_St_isOn_23 : decode prog_1_method_40_code 23 = .ok (.ifCond .eq 7, 3) := by decide +kernel
theorem d_St_isOn_26 : decode prog_1_method_40_code 26 = .ok (.iconst 1, 1) := by decide +kernel
theorem d_St_isOn_27 : decode prog_1_method_40_code 27 = .ok (.goto 4, 3) := by decide +kernel
theorem d_St_isOn_30 : decode prog_1_method_40_code 30 = .ok (.iconst 0, 1) := by decide +kernel
theorem d_St_isOn_31 : decode prog_1_method_40_code 31 = .ok (.ireturn, 1) := by decide +kernel
def wp_St_isOn_b31   (Q : Int32 → sx_M → Prop) (w0 : Int32) (σ : sx_M) : Prop := (w0 = 0 ∨ w0 = 1) ∧ (Q w0 σ)
def wp_St_isOn_b30   (Q : Int32 → sx_M → Prop)  (σ : sx_M) : Prop := wp_St_isOn_b31 Q 0 σ
def wp_St_isOn (x1 : Int32) (σ : sx_M) (Q : Int32 → sx_M → Prop) : Prop := wp_Pl_isPost 0 x1 σ (fun r2 σ2 => if r2 = 0 then (wp_St_isOn_b30 Q σ2) else (vp_in x1 7 ∧ (if σ2 27 0 x1.toNatClampNeg 0 = 0 then (wp_St_isOn_b30 Q σ2) else (wp_St_isOn_b31 Q 1 σ2))))
abbrev rm_St_isOn : Room := { frames := 1, cells := 0, slots := 0, locals := 21 }
set_option maxRecDepth 100000 in
set_option maxHeartbeats 4000000 in
theorem g_St_isOn_b31 {l : Launch} {K : sx_K} {X : sx_T}   {Q : Int32 → sx_M → Prop} (hX : sx_C X K prog_1_method_40_code 2 "SensorTree" (some .boolean) rm_St_isOn l) (hK : kx_C K) (hE : sx_E X K (sx_Qi K (fun r σ _ => Q r σ)))  (w0 : Int32) (σ : sx_M) (τ : sx_L)  (h : wp_St_isOn_b31 Q  w0 σ) : sx_G X K 2 31 [] [.int w0] (sx_H K σ τ) := by
  unfold wp_St_isOn_b31 at h
  obtain ⟨hc1, h⟩ := h
  exact sx_zret hX hE hc1 h d_St_isOn_31
set_option maxRecDepth 100000 in
set_option maxHeartbeats 4000000 in
theorem g_St_isOn_b30 {l : Launch} {K : sx_K} {X : sx_T}   {Q : Int32 → sx_M → Prop} (hX : sx_C X K prog_1_method_40_code 2 "SensorTree" (some .boolean) rm_St_isOn l) (hK : kx_C K) (hE : sx_E X K (sx_Qi K (fun r σ _ => Q r σ)))   (σ : sx_M) (τ : sx_L)  (h : wp_St_isOn_b30 Q  σ) : sx_G X K 2 30 [] [] (sx_H K σ τ) := by
  unfold wp_St_isOn_b30 at h
  refine sx_iconst (v := 0) (pc2 := 31) hX d_St_isOn_30 (by decide) rfl ?_
  exact g_St_isOn_b31 hX hK hE   0 _ _ h
set_option maxRecDepth 100000 in
set_option maxHeartbeats 4000000 in
theorem c_St_isOn {l : Launch} {K : sx_K} (hK : kx_C K) (x1 : Int32) (σ : sx_M) (τ : sx_L) (Q : Int32 → sx_M → Prop)  (h : wp_St_isOn x1 σ Q) : Met l y_St_isOn (sx_wd y_St_isOn prog_1_method_40_code 2 (some .boolean)) rm_St_isOn (sx_Pc K [.ref (K.2.2.1 0 0 0), .int x1] σ τ) (sx_Qi K (fun r σ _ => Q r σ)) 0 0 (sx_A K) := by
  refine sx_met (by decide) (Nat.le_of_ble_eq_true rfl) (fun X hX hE => ?_)
  replace hX : sx_C X K prog_1_method_40_code 2 "SensorTree" (some .boolean) rm_St_isOn l := hX
  show sx_G X K 2 0 [(0, .ref (K.2.2.1 0 0 0)), (1, .int x1)] [] (sx_H K σ τ)
  unfold wp_St_isOn at h
  refine sx_aload_n (pc2 := 1) hX 0 d_St_isOn_0 rfl rfl rfl ?_
  refine fg_St_26 (pc2 := 4) hX (hK 0 0 0 (by decide) (by decide)) d_St_isOn_1 rfl ?_
  refine sx_iload_n (pc2 := 5) hX 1 d_St_isOn_4 rfl rfl rfl ?_
  refine cl_St_144 (pc2 := 8) hX hK h (by decide) ⟨Nat.le_of_ble_eq_true rfl, Nat.le_of_ble_eq_true rfl⟩ (Nat.le_of_ble_eq_true rfl) d_St_isOn_5 rfl (fun r2 σ2 τ2 h => ?_)
  refine sx_if_eq (tgt := 30) (pc2 := 11) hX d_St_isOn_8 (by decide) rfl (fun hc3 => ?_) (fun hc3 => ?_)
  · replace h := sx_t h hc3
    refine sx_sub [] [] rfl ?_
    exact g_St_isOn_b30 hX hK hE   _ _ h
  · replace h := sx_f h hc3
    refine sx_aload_n (pc2 := 12) hX 0 d_St_isOn_11 rfl rfl rfl ?_
    refine fg_St_35 (pc2 := 15) hX (hK 0 0 0 (by decide) (by decide)) d_St_isOn_12 rfl ?_
    refine fg_St_147 (pc2 := 18) hX (hK 16 0 0 (by decide) (by decide)) d_St_isOn_15 rfl ?_
    refine sx_iload_n (pc2 := 19) hX 1 d_St_isOn_18 rfl rfl rfl ?_
    obtain ⟨hc4, h⟩ := h
    refine sx_aald (a := K.2.2.1 27 0 x1.toNatClampNeg) (pc2 := 20) hX (hK 17 0 0 (by decide) (by decide)) 4 rfl rfl rfl hc4 d_St_isOn_19 rfl ?_
    refine fg_St_151 (pc2 := 23) hX (hK 27 0 x1.toNatClampNeg (by decide) (sx_lt hc4)) d_St_isOn_20 rfl ?_
    refine sx_if_eq (tgt := 30) (pc2 := 26) hX d_St_isOn_23 (by decide) rfl (fun hc5 => ?_) (fun hc5 => ?_)
    · replace h := sx_t h hc5
      refine sx_sub [] [] rfl ?_
      exact g_St_isOn_b30 hX hK hE   _ _ h
    · replace h := sx_f h hc5
      refine sx_iconst (v := 1) (pc2 := 27) hX d_St_isOn_26 (by decide) rfl ?_
      refine sx_goto (tgt := 31) hX d_St_isOn_27 (by decide) ?_
      refine sx_sub [] [] rfl ?_
      exact g_St_isOn_b31 hX hK hE   1 _ _ h
theorem cl_St_218 {X : sx_T} {K : sx_K} {cc : ByteArray} {nL : Nat} {ret : Option FieldType} {rm : Room} {l : Launch} {pc pc2 : Nat} {lv : List (Nat × Value)} {st : List Value} {σ : sx_M} {τ : sx_L} {x1 : Int32} {Q : Int32 → sx_M → Prop} (hX : sx_C X K cc nL "SensorTree" ret rm l) (hK : kx_C K) (h : wp_St_isOn x1 σ Q)  (hR : rm_St_isOn.frames + 1 ≤ rm.frames ∧ 8 + (2 + 11) + rm_St_isOn.locals ≤ rm.locals) (hst : (st.map fun v => v.category).sum ≤ 8) (hd : decode cc pc = .ok (.invokevirtual 218, 3)) (hpc : pc + 3 = pc2) (kk : ∀ (r : Int32) (σ2 : sx_M) (τ2 : sx_L), Q r σ2 → sx_G X K nL pc2 lv (.int r :: st) (sx_H K σ2 τ2)) : sx_G X K nL pc lv (.int x1 :: .ref (K.2.2.1 0 0 0) :: st) (sx_H K σ τ) :=
  sx_callVi (Q := fun r σ _ => Q r σ) (As := [.int x1]) hX (c_St_isOn hK x1 σ τ Q  h) (hK 0 0 0 (by decide) (by decide)) rfl rfl lk_298 ls_31 hy_St_isOn lk_296 lk_260 lk_297 ⟨rfl, rfl⟩ hR hst rfl hd hpc kk
