def y_To_isWord : MethodName := ⟨"SensorTree$Tokens", "isWord", "(LSensorTree$Tape;III)Z"⟩
theorem hy_To_isWord : y_To_isWord.cls ≠ "java/lang/invoke/MethodHandle" ∧ y_To_isWord.cls ≠ "java/lang/invoke/VarHandle" ∧ (parseMethodDescriptor y_To_isWord.desc).map (fun d => d.parameters.length) = some 4 := by decide +kernel
theorem d_To_isWord_0 : decode prog_10_method_11_code 0 = .ok (.iconst 0, 1) := by decide +kernel
theorem d_To_isWord_1 : decode prog_10_method_11_code 1 = .ok (.istore 4, 2) := by decide +kernel
theorem d_To_isWord_3 : decode prog_10_method_11_code 3 = .ok (.iload 4, 2) := by decide +kernel
theorem d_To_isWord_5 : decode prog_10_method_11_code 5 = .ok (.bipush 6, 2) := by decide +kernel
theorem d_To_isWord_7 : decode prog_10_method_11_code 7 = .ok (.if_icmp .ge 63, 3) := by decide +kernel
theorem d_To_isWord_10 : decode prog_10_method_11_code 10 = .ok (.iload 4, 2) := by decide +kernel
theorem d_To_isWord_12 : decode prog_10_method_11_code 12 = .ok (.iload_n 2, 1) := by decide +kernel
theorem d_To_isWord_13 : decode prog_10_method_11_code 13 = .ok (.if_icmp .ge 14, 3) := by decide +kernel
theorem d_To_isWord_16 : decode prog_10_method_11_code 16 = .ok (.aload_n 0, 1) := by decide +kernel
theorem d_To_isWord_17 : decode prog_10_method_11_code 17 = .ok (.iload_n 1, 1) := by decide +kernel
theorem d_To_isWord_18 : decode prog_10_method_11_code 18 = .ok (.iload 4, 2) := by decide +kernel
theorem d_To_isWord_20 : decode prog_10_method_11_code 20 = .ok (.iadd, 1) := by decide +kernel
theorem d_To_isWord_21 : decode prog_10_method_11_code 21 = .ok (.invokevirtual 114, 3) := by decide +kernel
theorem d_To_isWord_24 : decode prog_10_method_11_code 24 = .ok (.goto 5, 3) := by decide +kernel
theorem d_To_isWord_27 : decode prog_10_method_11_code 27 = .ok (.bipush 32, 2) := by decide +kernel
theorem d_To_isWord_29 : decode prog_10_method_11_code 29 = .ok (.istore 5, 2) := by decide +kernel
theorem d_To_isWord_31 : decode prog_10_method_11_code 31 = .ok (.iload_n 3, 1) := by decide +kernel
theorem d_To_isWord_32 : decode prog_10_method_11_code 32 = .ok (.bipush 6, 2) := by decide +kernel
theorem d_To_isWord_34 : decode prog_10_method_11_code 34 = .ok (.imul, 1) := by decide +kernel
theorem d_To_isWord_35 : decode prog_10_method_11_code 35 = .ok (.iload 4, 2) := by decide +kernel
theorem d_To_isWord_37 : decode prog_10_method_11_code 37 = .ok (.iadd, 1) := by decide +kernel
theorem d_To_isWord_38 : decode prog_10_method_11_code 38 = .ok (.istore 6, 2) := by decide +kernel
theorem d_To_isWord_40 : decode prog_10_method_11_code 40 = .ok (.iload 6, 2) := by decide +kernel
theorem d_To_isWord_42 : decode prog_10_method_11_code 42 = .ok (.ldc 121, 2) := by decide +kernel
theorem d_To_isWord_44 : decode prog_10_method_11_code 44 = .ok (.invokevirtual 62, 3) := by decide +kernel
theorem d_To_isWord_47 : decode prog_10_method_11_code 47 = .ok (.if_icmp .ge 15, 3) := by decide +kernel
theorem d_To_isWord_50 : decode prog_10_method_11_code 50 = .ok (.ldc 121, 2) := by decide +kernel
theorem d_To_isWord_52 : decode prog_10_method_11_code 52 = .ok (.iload 6, 2) := by decide +kernel
theorem d_To_isWord_54 : decode prog_10_method_11_code 54 = .ok (.invokevirtual 83, 3) := by decide +kernel
theorem d_To_isWord_57 : decode prog_10_method_11_code 57 = .ok (.iload 5, 2) := by decide +kernel
theorem d_To_isWord_59 : decode prog_10_method_11_code 59 = .ok (.if_icmp .eq 5, 3) := by decide +kernel
theorem d_To_isWord_62 : decode prog_10_method_11_code 62 = .ok (.iconst 0, 1) := by decide +kernel
theorem d_To_isWord_63 : decode prog_10_method_11_code 63 = .ok (.ireturn, 1) := by decide +kernel
theorem d_To_isWord_64 : decode prog_10_method_11_code 64 = .ok (.iinc 4 1, 3) := by decide +kernel
theorem d_To_isWord_67 : decode prog_10_method_11_code 67 = .ok (.goto (-64), 3) := by decide +kernel
theorem d_To_isWord_70 : decode prog_10_method_11_code 70 = .ok (.iconst 1, 1) := by decide +kernel
theorem d_To_isWord_71 : decode prog_10_method_11_code 71 = .ok (.ireturn, 1) := by decide +kernel
def wp_To_isWord_b62   (Q : Int32 → sx_M → Prop)  (σ : sx_M) : Prop := Q 0 σ
def wp_To_isWord_b29  (k3 : Int32 → Int32 → Int32 → Int32 → sx_M → Prop) (Q : Int32 → sx_M → Prop) (v1 : Int32) (v2 : Int32) (v3 : Int32) (v4 : Int32) (w0 : Int32) (σ : sx_M) : Prop := vp_in (5 : Int32) 6 ∧ (if sx_tl (5 : Int32) ≤ (v3 * 6) + v4 then (wp_To_isWord_b62 Q σ) else ((vp_in (5 : Int32) 6 ∧ vp_in ((v3 * 6) + v4) (kx_len.getD (5 : Int32).toNatClampNeg 0)) ∧ (if sx_tc (5 : Int32) ((v3 * 6) + v4) = w0 then (k3 v1 v2 v3 (v4 + 1) σ) else (wp_To_isWord_b62 Q σ))))
def wp_To_isWord_b3   (Q : Int32 → sx_M → Prop) : Nat → Int32 → Int32 → Int32 → Int32 → sx_M → Prop
  | 0, _, _, _, _, _ => False
  | f + 1, v1, v2, v3, v4, σ => if 6 ≤ v4 then (Q 1 σ) else (if v2 ≤ v4 then (wp_To_isWord_b29 (wp_To_isWord_b3 Q f) Q v1 v2 v3 v4 32 σ) else (wp_Ta_byteAt (v1 + v4) σ (fun r7 σ7 => wp_To_isWord_b29 (wp_To_isWord_b3 Q f) Q v1 v2 v3 v4 r7 σ7)))
def wp_To_isWord (x1 : Int32) (x2 : Int32) (x3 : Int32) (σ : sx_M) (Q : Int32 → sx_M → Prop) : Prop := ∃ f3, wp_To_isWord_b3 Q f3 x1 x2 x3 0 σ
abbrev rm_To_isWord : Room := { frames := 4, cells := 0, slots := 0, locals := 85 }
set_option maxRecDepth 100000 in
set_option maxHeartbeats 4000000 in
theorem g_To_isWord_b62 {l : Launch} {K : sx_K} {X : sx_T}   {Q : Int32 → sx_M → Prop} (hX : sx_C X K prog_10_method_11_code 7 "SensorTree$Tokens" (some .boolean) rm_To_isWord l) (hK : kx_C K) (hE : sx_E X K (sx_Qi K (fun r σ _ => Q r σ)))   (σ : sx_M) (τ : sx_L)  (h : wp_To_isWord_b62 Q  σ) : sx_G X K 7 62 [] [] (sx_H K σ τ) := by
  unfold wp_To_isWord_b62 at h
  refine sx_iconst (v := 0) (pc2 := 63) hX d_To_isWord_62 (by decide) rfl ?_
  exact sx_zret hX hE (by decide) h d_To_isWord_63
set_option maxRecDepth 100000 in
set_option maxHeartbeats 4000000 in
theorem g_To_isWord_b29 {l : Launch} {K : sx_K} {X : sx_T}  {k3 : Int32 → Int32 → Int32 → Int32 → sx_M → Prop} {Q : Int32 → sx_M → Prop} (hX : sx_C X K prog_10_method_11_code 7 "SensorTree$Tokens" (some .boolean) rm_To_isWord l) (hK : kx_C K) (hE : sx_E X K (sx_Qi K (fun r σ _ => Q r σ)))  (hk3 : ∀ (v1 : Int32) (v2 : Int32) (v3 : Int32) (v4 : Int32) (σ : sx_M) (τ : sx_L) , k3 v1 v2 v3 v4 σ → sx_G X K 7 3 [(0, .ref (K.2.2.1 1 0 0)), (1, .int v1), (2, .int v2), (3, .int v3), (4, .int v4)] [] (sx_H K σ τ)) (v1 : Int32) (v2 : Int32) (v3 : Int32) (v4 : Int32) (w0 : Int32) (σ : sx_M) (τ : sx_L)  (h : wp_To_isWord_b29 k3 Q  v1 v2 v3 v4 w0 σ) : sx_G X K 7 29 [(0, .ref (K.2.2.1 1 0 0)), (1, .int v1), (2, .int v2), (3, .int v3), (4, .int v4)] [.int w0] (sx_H K σ τ) := by
  unfold wp_To_isWord_b29 at h
  refine sx_istore (pc2 := 31) hX _ [(0, .ref (K.2.2.1 1 0 0)), (1, .int v1), (2, .int v2), (3, .int v3), (4, .int v4), (5, .int w0)] [1, 2, 3, 4, 5, 0] d_To_isWord_29 (by decide) rfl rfl rfl ?_
  refine sx_iload_n (pc2 := 32) hX 3 d_To_isWord_31 rfl rfl rfl ?_
  refine sx_bipush (v := 6) (pc2 := 34) hX d_To_isWord_32 (by decide) rfl ?_
  refine sx_imul (pc2 := 35) hX d_To_isWord_34 rfl ?_
  refine sx_iload (pc2 := 37) hX 4 d_To_isWord_35 rfl rfl ?_
  refine sx_iadd (pc2 := 38) hX d_To_isWord_37 rfl ?_
  refine sx_istore (pc2 := 40) hX _ [(0, .ref (K.2.2.1 1 0 0)), (1, .int v1), (2, .int v2), (3, .int v3), (4, .int v4), (5, .int w0), (6, .int ((v3 * 6) + v4))] [1, 2, 3, 4, 5, 6, 0] d_To_isWord_38 (by decide) rfl rfl rfl ?_
  refine sx_iload (pc2 := 42) hX 6 d_To_isWord_40 rfl rfl ?_
  refine sx_ldcS (pc2 := 44) hX hX.2.2.2.2.2.2.2.2.2.2.2.2.2.2.2.2.2 d_To_isWord_42 rfl ?_
  refine sx_ref (a2 := K.2.2.1 40 (5 : Int32).toNatClampNeg 0) rfl ?_
  obtain ⟨hc1, h⟩ := h
  refine sx_slen (pc2 := 47) hX hc1 lk_12 ⟨Nat.le_of_ble_eq_true rfl, Nat.le_of_ble_eq_true rfl⟩ (Nat.le_of_ble_eq_true rfl) d_To_isWord_44 rfl ?_
  refine sx_icmp_ge (tgt := 62) (pc2 := 50) hX d_To_isWord_47 (by decide) rfl (fun hc2 => ?_) (fun hc2 => ?_)
  · replace h := sx_t h hc2
    refine sx_sub [] [] rfl ?_
    exact g_To_isWord_b62 hX hK hE   _ _ h
  · replace h := sx_f h hc2
    refine sx_ldcS (pc2 := 52) hX hX.2.2.2.2.2.2.2.2.2.2.2.2.2.2.2.2.2 d_To_isWord_50 rfl ?_
    refine sx_ref (a2 := K.2.2.1 40 (5 : Int32).toNatClampNeg 0) rfl ?_
    refine sx_iload (pc2 := 54) hX 6 d_To_isWord_52 rfl rfl ?_
    obtain ⟨hc3, h⟩ := h
    refine sx_charAt (pc2 := 57) hX hc3.1 hc3.2 lk_13 ⟨Nat.le_of_ble_eq_true rfl, Nat.le_of_ble_eq_true rfl⟩ (Nat.le_of_ble_eq_true rfl) d_To_isWord_54 rfl ?_
    refine sx_iload (pc2 := 59) hX 5 d_To_isWord_57 rfl rfl ?_
    refine sx_icmp_eq (tgt := 64) (pc2 := 62) hX d_To_isWord_59 (by decide) rfl (fun hc4 => ?_) (fun hc4 => ?_)
    · replace h := sx_t h hc4
      refine sx_iinc (pc2 := 67) hX 4 _ [(0, .ref (K.2.2.1 1 0 0)), (1, .int v1), (2, .int v2), (3, .int v3), (4, .int (v4 + 1)), (5, .int w0), (6, .int ((v3 * 6) + v4))] [1, 2, 3, 4, 0, 5, 6] d_To_isWord_64 rfl (v4 + 1) rfl (by decide) rfl rfl rfl ?_
      refine sx_goto (tgt := 3) hX d_To_isWord_67 (by decide) ?_
      refine sx_sub [(0, .ref (K.2.2.1 1 0 0)), (1, .int v1), (2, .int v2), (3, .int v3), (4, .int (v4 + 1))] [0, 1, 2, 3, 4] rfl ?_
      exact hk3 v1 v2 v3 (v4 + 1) _ _ h
    · replace h := sx_f h hc4
      refine sx_sub [] [] rfl ?_
      exact g_To_isWord_b62 hX hK hE   _ _ h
set_option maxRecDepth 100000 in
set_option maxHeartbeats 4000000 in
theorem g_To_isWord_b3 {l : Launch} {K : sx_K} {X : sx_T}   {Q : Int32 → sx_M → Prop} (hX : sx_C X K prog_10_method_11_code 7 "SensorTree$Tokens" (some .boolean) rm_To_isWord l) (hK : kx_C K) (hE : sx_E X K (sx_Qi K (fun r σ _ => Q r σ)))  : ∀ (f : Nat) (v1 : Int32) (v2 : Int32) (v3 : Int32) (v4 : Int32) (σ : sx_M) (τ : sx_L) , wp_To_isWord_b3 Q f v1 v2 v3 v4 σ → sx_G X K 7 3 [(0, .ref (K.2.2.1 1 0 0)), (1, .int v1), (2, .int v2), (3, .int v3), (4, .int v4)] [] (sx_H K σ τ) := by
  intro f
  induction f with
  | zero => intro v1 v2 v3 v4 σ τ h; exact (show False from h).elim
  | succ f ih =>
    intro v1 v2 v3 v4 σ τ h
    rw [wp_To_isWord_b3] at h
    refine sx_iload (pc2 := 5) hX 4 d_To_isWord_3 rfl rfl ?_
    refine sx_bipush (v := 6) (pc2 := 7) hX d_To_isWord_5 (by decide) rfl ?_
    refine sx_icmp_ge (tgt := 70) (pc2 := 10) hX d_To_isWord_7 (by decide) rfl (fun hc5 => ?_) (fun hc5 => ?_)
    · replace h := sx_t h hc5
      refine sx_iconst (v := 1) (pc2 := 71) hX d_To_isWord_70 (by decide) rfl ?_
      exact sx_zret hX hE (by decide) h d_To_isWord_71
    · replace h := sx_f h hc5
      refine sx_iload (pc2 := 12) hX 4 d_To_isWord_10 rfl rfl ?_
      refine sx_iload_n (pc2 := 13) hX 2 d_To_isWord_12 rfl rfl rfl ?_
      refine sx_icmp_ge (tgt := 27) (pc2 := 16) hX d_To_isWord_13 (by decide) rfl (fun hc6 => ?_) (fun hc6 => ?_)
      · replace h := sx_t h hc6
        refine sx_bipush (v := 32) (pc2 := 29) hX d_To_isWord_27 (by decide) rfl ?_
        exact g_To_isWord_b29 hX hK hE  ih v1 v2 v3 v4 32 _ _ h
      · replace h := sx_f h hc6
        refine sx_aload_n (pc2 := 17) hX 0 d_To_isWord_16 rfl rfl rfl ?_
        refine sx_iload_n (pc2 := 18) hX 1 d_To_isWord_17 rfl rfl rfl ?_
        refine sx_iload (pc2 := 20) hX 4 d_To_isWord_18 rfl rfl ?_
        refine sx_iadd (pc2 := 21) hX d_To_isWord_20 rfl ?_
        refine cl_To_114 (pc2 := 24) hX hK h  ⟨Nat.le_of_ble_eq_true rfl, Nat.le_of_ble_eq_true rfl⟩ (Nat.le_of_ble_eq_true rfl) d_To_isWord_21 rfl (fun r7 σ7 τ7 h => ?_)
        refine sx_goto (tgt := 29) hX d_To_isWord_24 (by decide) ?_
        exact g_To_isWord_b29 hX hK hE  ih v1 v2 v3 v4 r7 _ _ h
set_option maxRecDepth 100000 in
set_option maxHeartbeats 4000000 in
theorem c_To_isWord {l : Launch} {K : sx_K} (hK : kx_C K) (x1 : Int32) (x2 : Int32) (x3 : Int32) (σ : sx_M) (τ : sx_L) (Q : Int32 → sx_M → Prop)  (h : wp_To_isWord x1 x2 x3 σ Q) : Met l y_To_isWord (sx_wd y_To_isWord prog_10_method_11_code 7 (some .boolean)) rm_To_isWord (sx_Pc K [.ref (K.2.2.1 1 0 0), .int x1, .int x2, .int x3] σ τ) (sx_Qi K (fun r σ _ => Q r σ)) 0 0 (sx_A K) := by
  refine sx_met (by decide) (Nat.le_of_ble_eq_true rfl) (fun X hX hE => ?_)
  replace hX : sx_C X K prog_10_method_11_code 7 "SensorTree$Tokens" (some .boolean) rm_To_isWord l := hX
  show sx_G X K 7 0 [(0, .ref (K.2.2.1 1 0 0)), (1, .int x1), (2, .int x2), (3, .int x3)] [] (sx_H K σ τ)
  unfold wp_To_isWord at h
  refine sx_iconst (v := 0) (pc2 := 1) hX d_To_isWord_0 (by decide) rfl ?_
  refine sx_istore (pc2 := 3) hX _ [(0, .ref (K.2.2.1 1 0 0)), (1, .int x1), (2, .int x2), (3, .int x3), (4, .int 0)] [1, 2, 3, 4, 0] d_To_isWord_1 (by decide) rfl rfl rfl ?_
  obtain ⟨f3, h⟩ := h
  exact g_To_isWord_b3 hX hK hE   f3 x1 x2 x3 0 _ _ h
theorem cl_To_117 {X : sx_T} {K : sx_K} {cc : ByteArray} {nL : Nat} {ret : Option FieldType} {rm : Room} {l : Launch} {pc pc2 : Nat} {lv : List (Nat × Value)} {st : List Value} {σ : sx_M} {τ : sx_L} {x1 : Int32} {x2 : Int32} {x3 : Int32} {Q : Int32 → sx_M → Prop} (hX : sx_C X K cc nL "SensorTree$Tokens" ret rm l) (hK : kx_C K) (h : wp_To_isWord x1 x2 x3 σ Q)  (hR : rm_To_isWord.frames + 1 ≤ rm.frames ∧ 8 + (7 + 11) + rm_To_isWord.locals ≤ rm.locals) (hst : (st.map fun v => v.category).sum ≤ 8) (hd : decode cc pc = .ok (.invokestatic 117, 3)) (hpc : pc + 3 = pc2) (kk : ∀ (r : Int32) (σ2 : sx_M) (τ2 : sx_L), Q r σ2 → sx_G X K nL pc2 lv (.int r :: st) (sx_H K σ2 τ2)) : sx_G X K nL pc lv (.int x3 :: .int x2 :: .int x1 :: .ref (K.2.2.1 1 0 0) :: st) (sx_H K σ τ) :=
  sx_callSi (Q := fun r σ _ => Q r σ) (As := [.ref (K.2.2.1 1 0 0), .int x1, .int x2, .int x3]) hX (c_To_isWord hK x1 x2 x3 σ τ Q  h) lk_152 hy_To_isWord lk_150 lk_149 lk_151 ⟨rfl, rfl⟩ hR hst rfl hd hpc kk
def y_To_wordOrName : MethodName := ⟨"SensorTree$Tokens", "wordOrName", "(LSensorTree$Tape;II)I"⟩
theorem hy_To_wordOrName : y_To_wordOrName.cls ≠ "java/lang/invoke/MethodHandle" ∧ y_To_wordOrName.cls ≠ "java/lang/invoke/VarHandle" ∧ (parseMethodDescriptor y_To_wordOrName.desc).map (fun d => d.parameters.length) = some 3 := by decide +kernel
theorem d_To_wordOrName_0 : decode prog_10_method_10_code 0 = .ok (.iload_n 2, 1) := by decide +kernel
theorem d_To_wordOrName_1 : decode prog_10_method_10_code 1 = .ok (.bipush 6, 2) := by decide +kernel
theorem d_To_wordOrName_3 : decode prog_10_method_10_code 3 = .ok (.if_icmp .le 6, 3) := by decide +kernel
theorem d_To_wordOrName_6 : decode prog_10_method_10_code 6 = .ok (.bipush 14, 2) := by decide +kernel
theorem d_To_wordOrName_8 : decode prog_10_method_10_code 8 = .ok (.ireturn, 1) := by decide +kernel
theorem d_To_wordOrName_9 : decode prog_10_method_10_code 9 = .ok (.iconst 0, 1) := by decide +kernel
theorem d_To_wordOrName_10 : decode prog_10_method_10_code 10 = .ok (.istore_n 3, 1) := by decide +kernel
theorem d_To_wordOrName_11 : decode prog_10_method_10_code 11 = .ok (.iload_n 3, 1) := by decide +kernel
theorem d_To_wordOrName_12 : decode prog_10_method_10_code 12 = .ok (.bipush 13, 2) := by decide +kernel
theorem d_To_wordOrName_14 : decode prog_10_method_10_code 14 = .ok (.if_icmp .gt 21, 3) := by decide +kernel
theorem d_To_wordOrName_17 : decode prog_10_method_10_code 17 = .ok (.aload_n 0, 1) := by decide +kernel
theorem d_To_wordOrName_18 : decode prog_10_method_10_code 18 = .ok (.iload_n 1, 1) := by decide +kernel
theorem d_To_wordOrName_19 : decode prog_10_method_10_code 19 = .ok (.iload_n 2, 1) := by decide +kernel
theorem d_To_wordOrName_20 : decode prog_10_method_10_code 20 = .ok (.iload_n 3, 1) := by decide +kernel
theorem d_To_wordOrName_21 : decode prog_10_method_10_code 21 = .ok (.invokestatic 117, 3) := by decide +kernel
theorem d_To_wordOrName_24 : decode prog_10_method_10_code 24 = .ok (.ifCond .eq 5, 3) := by decide +kernel
theorem d_To_wordOrName_27 : decode prog_10_method_10_code 27 = .ok (.iload_n 3, 1) := by decide +kernel
theorem d_To_wordOrName_28 : decode prog_10_method_10_code 28 = .ok (.ireturn, 1) := by decide +kernel
theorem d_To_wordOrName_29 : decode prog_10_method_10_code 29 = .ok (.iinc 3 1, 3) := by decide +kernel
theorem d_To_wordOrName_32 : decode prog_10_method_10_code 32 = .ok (.goto (-21), 3) := by decide +kernel
theorem d_To_wordOrName_35 : decode prog_10_method_10_code 35 = .ok (.bipush 14, 2) := by decide +kernel
theorem d_To_wordOrName_37 : decode prog_10_method_10_code 37 = .ok (.ireturn, 1) := by decide +kernel
def wp_To_wordOrName_b11   (Q : Int32 → sx_M → Prop) : Nat → Int32 → Int32 → Int32 → sx_M → Prop
  | 0, _, _, _, _ => False
  | f + 1, v1, v2, v3, σ => if 13 < v3 then (Q 14 σ) else (wp_To_isWord v1 v2 v3 σ (fun r2 σ2 => if r2 = 0 then (wp_To_wordOrName_b11 Q f v1 v2 (v3 + 1) σ2) else (Q v3 σ2)))
def wp_To_wordOrName (x1 : Int32) (x2 : Int32) (σ : sx_M) (Q : Int32 → sx_M → Prop) : Prop := if x2 ≤ 6 then (∃ f11, wp_To_wordOrName_b11 Q f11 x1 x2 0 σ) else (Q 14 σ)
abbrev rm_To_wordOrName : Room := { frames := 5, cells := 0, slots := 0, locals := 111 }
set_option maxRecDepth 100000 in
set_option maxHeartbeats 4000000 in
theorem g_To_wordOrName_b11 {l : Launch} {K : sx_K} {X : sx_T}   {Q : Int32 → sx_M → Prop} (hX : sx_C X K prog_10_method_10_code 4 "SensorTree$Tokens" (some .int) rm_To_wordOrName l) (hK : kx_C K) (hE : sx_E X K (sx_Qi K (fun r σ _ => Q r σ)))  : ∀ (f : Nat) (v1 : Int32) (v2 : Int32) (v3 : Int32) (σ : sx_M) (τ : sx_L) , wp_To_wordOrName_b11 Q f v1 v2 v3 σ → sx_G X K 4 11 [(0, .ref (K.2.2.1 1 0 0)), (1, .int v1), (2, .int v2), (3, .int v3)] [] (sx_H K σ τ) := by
  intro f
  induction f with
  | zero => intro v1 v2 v3 σ τ h; exact (show False from h).elim
  | succ f ih =>
    intro v1 v2 v3 σ τ h
    rw [wp_To_wordOrName_b11] at h
    refine sx_iload_n (pc2 := 12) hX 3 d_To_wordOrName_11 rfl rfl rfl ?_
    refine sx_bipush (v := 13) (pc2 := 14) hX d_To_wordOrName_12 (by decide) rfl ?_
    refine sx_icmp_gt (tgt := 35) (pc2 := 17) hX d_To_wordOrName_14 (by decide) rfl (fun hc1 => ?_) (fun hc1 => ?_)
    · replace h := sx_t h hc1
      refine sx_bipush (v := 14) (pc2 := 37) hX d_To_wordOrName_35 (by decide) rfl ?_
      exact sx_iret hX hE h d_To_wordOrName_37
    · replace h := sx_f h hc1
      refine sx_aload_n (pc2 := 18) hX 0 d_To_wordOrName_17 rfl rfl rfl ?_
      refine sx_iload_n (pc2 := 19) hX 1 d_To_wordOrName_18 rfl rfl rfl ?_
      refine sx_iload_n (pc2 := 20) hX 2 d_To_wordOrName_19 rfl rfl rfl ?_
      refine sx_iload_n (pc2 := 21) hX 3 d_To_wordOrName_20 rfl rfl rfl ?_
      refine cl_To_117 (pc2 := 24) hX hK h  ⟨Nat.le_of_ble_eq_true rfl, Nat.le_of_ble_eq_true rfl⟩ (Nat.le_of_ble_eq_true rfl) d_To_wordOrName_21 rfl (fun r2 σ2 τ2 h => ?_)
      refine sx_if_eq (tgt := 29) (pc2 := 27) hX d_To_wordOrName_24 (by decide) rfl (fun hc3 => ?_) (fun hc3 => ?_)
      · replace h := sx_t h hc3
        refine sx_iinc (pc2 := 32) hX 3 _ [(0, .ref (K.2.2.1 1 0 0)), (1, .int v1), (2, .int v2), (3, .int (v3 + 1))] [1, 2, 3, 0] d_To_wordOrName_29 rfl (v3 + 1) rfl (by decide) rfl rfl rfl ?_
        refine sx_goto (tgt := 11) hX d_To_wordOrName_32 (by decide) ?_
        exact ih v1 v2 (v3 + 1) _ _ h
      · replace h := sx_f h hc3
        refine sx_iload_n (pc2 := 28) hX 3 d_To_wordOrName_27 rfl rfl rfl ?_
        exact sx_iret hX hE h d_To_wordOrName_28
set_option maxRecDepth 100000 in
set_option maxHeartbeats 4000000 in
theorem c_To_wordOrName {l : Launch} {K : sx_K} (hK : kx_C K) (x1 : Int32) (x2 : Int32) (σ : sx_M) (τ : sx_L) (Q : Int32 → sx_M → Prop)  (h : wp_To_wordOrName x1 x2 σ Q) : Met l y_To_wordOrName (sx_wd y_To_wordOrName prog_10_method_10_code 4 (some .int)) rm_To_wordOrName (sx_Pc K [.ref (K.2.2.1 1 0 0), .int x1, .int x2] σ τ) (sx_Qi K (fun r σ _ => Q r σ)) 0 0 (sx_A K) := by
  refine sx_met (by decide) (Nat.le_of_ble_eq_true rfl) (fun X hX hE => ?_)
  replace hX : sx_C X K prog_10_method_10_code 4 "SensorTree$Tokens" (some .int) rm_To_wordOrName l := hX
  show sx_G X K 4 0 [(0, .ref (K.2.2.1 1 0 0)), (1, .int x1), (2, .int x2)] [] (sx_H K σ τ)
  unfold wp_To_wordOrName at h
  refine sx_iload_n (pc2 := 1) hX 2 d_To_wordOrName_0 rfl rfl rfl ?_
  refine sx_bipush (v := 6) (pc2 := 3) hX d_To_wordOrName_1 (by decide) rfl ?_
  refine sx_icmp_le (tgt := 9) (pc2 := 6) hX d_To_wordOrName_3 (by decide) rfl (fun hc4 => ?_) (fun hc4 => ?_)
  · replace h := sx_t h hc4
    refine sx_iconst (v := 0) (pc2 := 10) hX d_To_wordOrName_9 (by decide) rfl ?_
    refine sx_istore_n (pc2 := 11) hX _ [(0, .ref (K.2.2.1 1 0 0)), (1, .int x1), (2, .int x2), (3, .int 0)] [1, 2, 3, 0] d_To_wordOrName_10 rfl (by decide) rfl rfl rfl ?_
    obtain ⟨f11, h⟩ := h
    exact g_To_wordOrName_b11 hX hK hE   f11 x1 x2 0 _ _ h
  · replace h := sx_f h hc4
    refine sx_bipush (v := 14) (pc2 := 8) hX d_To_wordOrName_6 (by decide) rfl ?_
    exact sx_iret hX hE h d_To_wordOrName_8
theorem cl_To_108 {X : sx_T} {K : sx_K} {cc : ByteArray} {nL : Nat} {ret : Option FieldType} {rm : Room} {l : Launch} {pc pc2 : Nat} {lv : List (Nat × Value)} {st : List Value} {σ : sx_M} {τ : sx_L} {x1 : Int32} {x2 : Int32} {Q : Int32 → sx_M → Prop} (hX : sx_C X K cc nL "SensorTree$Tokens" ret rm l) (hK : kx_C K) (h : wp_To_wordOrName x1 x2 σ Q)  (hR : rm_To_wordOrName.frames + 1 ≤ rm.frames ∧ 8 + (4 + 11) + rm_To_wordOrName.locals ≤ rm.locals) (hst : (st.map fun v => v.category).sum ≤ 8) (hd : decode cc pc = .ok (.invokestatic 108, 3)) (hpc : pc + 3 = pc2) (kk : ∀ (r : Int32) (σ2 : sx_M) (τ2 : sx_L), Q r σ2 → sx_G X K nL pc2 lv (.int r :: st) (sx_H K σ2 τ2)) : sx_G X K nL pc lv (.int x2 :: .int x1 :: .ref (K.2.2.1 1 0 0) :: st) (sx_H K σ τ) :=
  sx_callSi (Q := fun r σ _ => Q r σ) (As := [.ref (K.2.2.1 1 0 0), .int x1, .int x2]) hX (c_To_wordOrName hK x1 x2 σ τ Q  h) lk_157 hy_To_wordOrName lk_155 lk_149 lk_156 ⟨rfl, rfl⟩ hR hst rfl hd hpc kk
def y_To_sortOf : MethodName := ⟨"SensorTree$Tokens", "sortOf", "(LSensorTree$Tape;II)I"⟩
theorem hy_To_sortOf : y_To_sortOf.cls ≠ "java/lang/invoke/MethodHandle" ∧ y_To_sortOf.cls ≠ "java/lang/invoke/VarHandle" ∧ (parseMethodDescriptor y_To_sortOf.desc).map (fun d => d.parameters.length) = some 3 := by decide +kernel
theorem d_To_sortOf_0 : decode prog_10_method_9_code 0 = .ok (.iload_n 1, 1) := by decide +kernel
theorem d_To_sortOf_1 : decode prog_10_method_9_code 1 = .ok (.aload_n 0, 1) := by decide +kernel
theorem d_To_sortOf_2 : decode prog_10_method_9_code 2 = .ok (.getfield 103, 3) := by decide +kernel
theorem d_To_sortOf_5 : decode prog_10_method_9_code 5 = .ok (.if_icmp .lt 6, 3) := by decide +kernel
theorem d_To_sortOf_8 : decode prog_10_method_9_code 8 = .ok (.bipush 17, 2) := by decide +kernel
theorem d_To_sortOf_10 : decode prog_10_method_9_code 10 = .ok (.ireturn, 1) := by decide +kernel
theorem d_To_sortOf_11 : decode prog_10_method_9_code 11 = .ok (.aload_n 0, 1) := by decide +kernel
theorem d_To_sortOf_12 : decode prog_10_method_9_code 12 = .ok (.iload_n 1, 1) := by decide +kernel
theorem d_To_sortOf_13 : decode prog_10_method_9_code 13 = .ok (.invokevirtual 105, 3) := by decide +kernel
theorem d_To_sortOf_16 : decode prog_10_method_9_code 16 = .ok (.ifCond .eq 25, 3) := by decide +kernel
theorem d_To_sortOf_19 : decode prog_10_method_9_code 19 = .ok (.iload_n 2, 1) := by decide +kernel
theorem d_To_sortOf_20 : decode prog_10_method_9_code 20 = .ok (.iload_n 1, 1) := by decide +kernel
theorem d_To_sortOf_21 : decode prog_10_method_9_code 21 = .ok (.isub, 1) := by decide +kernel
theorem d_To_sortOf_22 : decode prog_10_method_9_code 22 = .ok (.bipush 8, 2) := by decide +kernel
theorem d_To_sortOf_24 : decode prog_10_method_9_code 24 = .ok (.if_icmp .gt 14, 3) := by decide +kernel
theorem d_To_sortOf_27 : decode prog_10_method_9_code 27 = .ok (.aload_n 0, 1) := by decide +kernel
theorem d_To_sortOf_28 : decode prog_10_method_9_code 28 = .ok (.iload_n 1, 1) := by decide +kernel
theorem d_To_sortOf_29 : decode prog_10_method_9_code 29 = .ok (.iload_n 2, 1) := by decide +kernel
theorem d_To_sortOf_30 : decode prog_10_method_9_code 30 = .ok (.iload_n 1, 1) := by decide +kernel
theorem d_To_sortOf_31 : decode prog_10_method_9_code 31 = .ok (.isub, 1) := by decide +kernel
theorem d_To_sortOf_32 : decode prog_10_method_9_code 32 = .ok (.invokestatic 108, 3) := by decide +kernel
theorem d_To_sortOf_35 : decode prog_10_method_9_code 35 = .ok (.goto 5, 3) := by decide +kernel
theorem d_To_sortOf_38 : decode prog_10_method_9_code 38 = .ok (.bipush 18, 2) := by decide +kernel
theorem d_To_sortOf_40 : decode prog_10_method_9_code 40 = .ok (.ireturn, 1) := by decide +kernel
theorem d_To_sortOf_41 : decode prog_10_method_9_code 41 = .ok (.aload_n 0, 1) := by decide +kernel
theorem d_To_sortOf_42 : decode prog_10_method_9_code 42 = .ok (.iload_n 1, 1) := by decide +kernel
theorem d_To_sortOf_43 : decode prog_10_method_9_code 43 = .ok (.invokevirtual 111, 3) := by decide +kernel
theorem d_To_sortOf_46 : decode prog_10_method_9_code 46 = .ok (.ifCond .eq 18, 3) := by decide +kernel
theorem d_To_sortOf_49 : decode prog_10_method_9_code 49 = .ok (.iload_n 2, 1) := by decide +kernel
theorem d_To_sortOf_50 : decode prog_10_method_9_code 50 = .ok (.iload_n 1, 1) := by decide +kernel
theorem d_To_sortOf_51 : decode prog_10_method_9_code 51 = .ok (.isub, 1) := by decide +kernel
theorem d_To_sortOf_52 : decode prog_10_method_9_code 52 = .ok (.iconst 4, 1) := by decide +kernel
theorem d_To_sortOf_53 : decode prog_10_method_9_code 53 = .ok (.if_icmp .gt 8, 3) := by decide +kernel
theorem d_To_sortOf_56 : decode prog_10_method_9_code 56 = .ok (.bipush 15, 2) := by decide +kernel
theorem d_To_sortOf_58 : decode prog_10_method_9_code 58 = .ok (.goto 5, 3) := by decide +kernel
theorem d_To_sortOf_61 : decode prog_10_method_9_code 61 = .ok (.bipush 18, 2) := by decide +kernel
theorem d_To_sortOf_63 : decode prog_10_method_9_code 63 = .ok (.ireturn, 1) := by decide +kernel
theorem d_To_sortOf_64 : decode prog_10_method_9_code 64 = .ok (.aload_n 0, 1) := by decide +kernel
theorem d_To_sortOf_65 : decode prog_10_method_9_code 65 = .ok (.iload_n 1, 1) := by decide +kernel
theorem d_To_sortOf_66 : decode prog_10_method_9_code 66 = .ok (.invokevirtual 114, 3) := by decide +kernel
theorem d_To_sortOf_69 : decode prog_10_method_9_code 69 = .ok (.bipush 59, 2) := by decide +kernel
theorem d_To_sortOf_71 : decode prog_10_method_9_code 71 = .ok (.if_icmp .ne 8, 3) := by decide +kernel
theorem d_To_sortOf_74 : decode prog_10_method_9_code 74 = .ok (.bipush 16, 2) := by decide +kernel
theorem d_To_sortOf_76 : decode prog_10_method_9_code 76 = .ok (.goto 5, 3) := by decide +kernel
theorem d_To_sortOf_79 : decode prog_10_method_9_code 79 = .ok (.bipush 18, 2) := by decide +kernel
theorem d_To_sortOf_81 : decode prog_10_method_9_code 81 = .ok (.ireturn, 1) := by decide +kernel
def wp_To_sortOf_b81   (Q : Int32 → sx_M → Prop) (w0 : Int32) (σ : sx_M) : Prop := Q w0 σ
def wp_To_sortOf_b63   (Q : Int32 → sx_M → Prop) (w0 : Int32) (σ : sx_M) : Prop := Q w0 σ
def wp_To_sortOf_b40   (Q : Int32 → sx_M → Prop) (w0 : Int32) (σ : sx_M) : Prop := Q w0 σ
def wp_To_sortOf (x1 : Int32) (x2 : Int32) (σ : sx_M) (Q : Int32 → sx_M → Prop) : Prop := if x1 < σ 1 0 0 1 then (wp_Ta_isLetter x1 σ (fun r2 σ2 => if r2 = 0 then (wp_Ta_isDigit x1 σ2 (fun r4 σ4 => if r4 = 0 then (wp_Ta_byteAt x1 σ4 (fun r6 σ6 => if r6 = 59 then (wp_To_sortOf_b81 Q 16 σ6) else (wp_To_sortOf_b81 Q 18 σ6))) else (if 4 < x2 - x1 then (wp_To_sortOf_b63 Q 18 σ4) else (wp_To_sortOf_b63 Q 15 σ4)))) else (if 8 < x2 - x1 then (wp_To_sortOf_b40 Q 18 σ2) else (wp_To_wordOrName x1 (x2 - x1) σ2 (fun r10 σ10 => wp_To_sortOf_b40 Q r10 σ10))))) else (Q 17 σ)
abbrev rm_To_sortOf : Room := { frames := 6, cells := 0, slots := 0, locals := 134 }
set_option maxRecDepth 100000 in
set_option maxHeartbeats 4000000 in
theorem g_To_sortOf_b81 {l : Launch} {K : sx_K} {X : sx_T}   {Q : Int32 → sx_M → Prop} (hX : sx_C X K prog_10_method_9_code 3 "SensorTree$Tokens" (some .int) rm_To_sortOf l) (hK : kx_C K) (hE : sx_E X K (sx_Qi K (fun r σ _ => Q r σ)))  (w0 : Int32) (σ : sx_M) (τ : sx_L)  (h : wp_To_sortOf_b81 Q  w0 σ) : sx_G X K 3 81 [] [.int w0] (sx_H K σ τ) := by
  unfold wp_To_sortOf_b81 at h
  exact sx_iret hX hE h d_To_sortOf_81
set_option maxRecDepth 100000 in
set_option maxHeartbeats 4000000 in
theorem g_To_sortOf_b63 {l : Launch} {K : sx_K} {X : sx_T}   {Q : Int32 → sx_M → Prop} (hX : sx_C X K prog_10_method_9_code 3 "SensorTree$Tokens" (some .int) rm_To_sortOf l) (hK : kx_C K) (hE : sx_E X K (sx_Qi K (fun r σ _ => Q r σ)))  (w0 : Int32) (σ : sx_M) (τ : sx_L)  (h : wp_To_sortOf_b63 Q  w0 σ) : sx_G X K 3 63 [] [.int w0] (sx_H K σ τ) := by
  unfold wp_To_sortOf_b63 at h
  exact sx_iret hX hE h d_To_sortOf_63
set_option maxRecDepth 100000 in
set_option maxHeartbeats 4000000 in
theorem g_To_sortOf_b40 {l : Launch} {K : sx_K} {X : sx_T}   {Q : Int32 → sx_M → Prop} (hX : sx_C X K prog_10_method_9_code 3 "SensorTree$Tokens" (some .int) rm_To_sortOf l) (hK : kx_C K) (hE : sx_E X K (sx_Qi K (fun r σ _ => Q r σ)))  (w0 : Int32) (σ : sx_M) (τ : sx_L)  (h : wp_To_sortOf_b40 Q  w0 σ) : sx_G X K 3 40 [] [.int w0] (sx_H K σ τ) := by
  unfold wp_To_sortOf_b40 at h
  exact sx_iret hX hE h d_To_sortOf_40
set_option maxRecDepth 100000 in
set_option maxHeartbeats 4000000 in
theorem c_To_sortOf {l : Launch} {K : sx_K} (hK : kx_C K) (x1 : Int32) (x2 : Int32) (σ : sx_M) (τ : sx_L) (Q : Int32 → sx_M → Prop)  (h : wp_To_sortOf x1 x2 σ Q) : Met l y_To_sortOf (sx_wd y_To_sortOf prog_10_method_9_code 3 (some .int)) rm_To_sortOf (sx_Pc K [.ref (K.2.2.1 1 0 0), .int x1, .int x2] σ τ) (sx_Qi K (fun r σ _ => Q r σ)) 0 0 (sx_A K) := by
  refine sx_met (by decide) (Nat.le_of_ble_eq_true rfl) (fun X hX hE => ?_)
  replace hX : sx_C X K prog_10_method_9_code 3 "SensorTree$Tokens" (some .int) rm_To_sortOf l := hX
  show sx_G X K 3 0 [(0, .ref (K.2.2.1 1 0 0)), (1, .int x1), (2, .int x2)] [] (sx_H K σ τ)
  unfold wp_To_sortOf at h
  refine sx_iload_n (pc2 := 1) hX 1 d_To_sortOf_0 rfl rfl rfl ?_
  refine sx_aload_n (pc2 := 2) hX 0 d_To_sortOf_1 rfl rfl rfl ?_
  refine fg_To_103 (pc2 := 5) hX (hK 1 0 0 (by decide) (by decide)) d_To_sortOf_2 rfl ?_
  refine sx_icmp_lt (tgt := 11) (pc2 := 8) hX d_To_sortOf_5 (by decide) rfl (fun hc1 => ?_) (fun hc1 => ?_)
  · replace h := sx_t h hc1
    refine sx_aload_n (pc2 := 12) hX 0 d_To_sortOf_11 rfl rfl rfl ?_
    refine sx_iload_n (pc2 := 13) hX 1 d_To_sortOf_12 rfl rfl rfl ?_
    refine cl_To_105 (pc2 := 16) hX hK h  ⟨Nat.le_of_ble_eq_true rfl, Nat.le_of_ble_eq_true rfl⟩ (Nat.le_of_ble_eq_true rfl) d_To_sortOf_13 rfl (fun r2 σ2 τ2 h => ?_)
    refine sx_if_eq (tgt := 41) (pc2 := 19) hX d_To_sortOf_16 (by decide) rfl (fun hc3 => ?_) (fun hc3 => ?_)
    · replace h := sx_t h hc3
      refine sx_aload_n (pc2 := 42) hX 0 d_To_sortOf_41 rfl rfl rfl ?_
      refine sx_iload_n (pc2 := 43) hX 1 d_To_sortOf_42 rfl rfl rfl ?_
      refine cl_To_111 (pc2 := 46) hX hK h  ⟨Nat.le_of_ble_eq_true rfl, Nat.le_of_ble_eq_true rfl⟩ (Nat.le_of_ble_eq_true rfl) d_To_sortOf_43 rfl (fun r4 σ4 τ4 h => ?_)
      refine sx_if_eq (tgt := 64) (pc2 := 49) hX d_To_sortOf_46 (by decide) rfl (fun hc5 => ?_) (fun hc5 => ?_)
      · replace h := sx_t h hc5
        refine sx_aload_n (pc2 := 65) hX 0 d_To_sortOf_64 rfl rfl rfl ?_
        refine sx_iload_n (pc2 := 66) hX 1 d_To_sortOf_65 rfl rfl rfl ?_
        refine cl_To_114 (pc2 := 69) hX hK h  ⟨Nat.le_of_ble_eq_true rfl, Nat.le_of_ble_eq_true rfl⟩ (Nat.le_of_ble_eq_true rfl) d_To_sortOf_66 rfl (fun r6 σ6 τ6 h => ?_)
        refine sx_bipush (v := 59) (pc2 := 71) hX d_To_sortOf_69 (by decide) rfl ?_
        refine sx_icmp_ne (tgt := 79) (pc2 := 74) hX d_To_sortOf_71 (by decide) rfl (fun hc7 => ?_) (fun hc7 => ?_)
        · replace h := sx_f h hc7
          refine sx_bipush (v := 18) (pc2 := 81) hX d_To_sortOf_79 (by decide) rfl ?_
          refine sx_sub [] [] rfl ?_
          exact g_To_sortOf_b81 hX hK hE   18 _ _ h
        · replace h := sx_t h hc7
          refine sx_bipush (v := 16) (pc2 := 76) hX d_To_sortOf_74 (by decide) rfl ?_
          refine sx_goto (tgt := 81) hX d_To_sortOf_76 (by decide) ?_
          refine sx_sub [] [] rfl ?_
          exact g_To_sortOf_b81 hX hK hE   16 _ _ h
      · replace h := sx_f h hc5
        refine sx_iload_n (pc2 := 50) hX 2 d_To_sortOf_49 rfl rfl rfl ?_
        refine sx_iload_n (pc2 := 51) hX 1 d_To_sortOf_50 rfl rfl rfl ?_
        refine sx_isub (pc2 := 52) hX d_To_sortOf_51 rfl ?_
        refine sx_iconst (v := 4) (pc2 := 53) hX d_To_sortOf_52 (by decide) rfl ?_
        refine sx_icmp_gt (tgt := 61) (pc2 := 56) hX d_To_sortOf_53 (by decide) rfl (fun hc8 => ?_) (fun hc8 => ?_)
        · replace h := sx_t h hc8
          refine sx_bipush (v := 18) (pc2 := 63) hX d_To_sortOf_61 (by decide) rfl ?_
          refine sx_sub [] [] rfl ?_
          exact g_To_sortOf_b63 hX hK hE   18 _ _ h
        · replace h := sx_f h hc8
          refine sx_bipush (v := 15) (pc2 := 58) hX d_To_sortOf_56 (by decide) rfl ?_
          refine sx_goto (tgt := 63) hX d_To_sortOf_58 (by decide) ?_
          refine sx_sub [] [] rfl ?_
          exact g_To_sortOf_b63 hX hK hE   15 _ _ h
    · replace h := sx_f h hc3
      refine sx_iload_n (pc2 := 20) hX 2 d_To_sortOf_19 rfl rfl rfl ?_
      refine sx_iload_n (pc2 := 21) hX 1 d_To_sortOf_20 rfl rfl rfl ?_
      refine sx_isub (pc2 := 22) hX d_To_sortOf_21 rfl ?_
      refine sx_bipush (v := 8) (pc2 := 24) hX d_To_sortOf_22 (by decide) rfl ?_
      refine sx_icmp_gt (tgt := 38) (pc2 := 27) hX d_To_sortOf_24 (by decide) rfl (fun hc9 => ?_) (fun hc9 => ?_)
      · replace h := sx_t h hc9
        refine sx_bipush (v := 18) (pc2 := 40) hX d_To_sortOf_38 (by decide) rfl ?_
        refine sx_sub [] [] rfl ?_
        exact g_To_sortOf_b40 hX hK hE   18 _ _ h
      · replace h := sx_f h hc9
        refine sx_aload_n (pc2 := 28) hX 0 d_To_sortOf_27 rfl rfl rfl ?_
        refine sx_iload_n (pc2 := 29) hX 1 d_To_sortOf_28 rfl rfl rfl ?_
        refine sx_iload_n (pc2 := 30) hX 2 d_To_sortOf_29 rfl rfl rfl ?_
        refine sx_iload_n (pc2 := 31) hX 1 d_To_sortOf_30 rfl rfl rfl ?_
        refine sx_isub (pc2 := 32) hX d_To_sortOf_31 rfl ?_
        refine cl_To_108 (pc2 := 35) hX hK h  ⟨Nat.le_of_ble_eq_true rfl, Nat.le_of_ble_eq_true rfl⟩ (Nat.le_of_ble_eq_true rfl) d_To_sortOf_32 rfl (fun r10 σ10 τ10 h => ?_)
        refine sx_goto (tgt := 40) hX d_To_sortOf_35 (by decide) ?_
        refine sx_sub [] [] rfl ?_
        exact g_To_sortOf_b40 hX hK hE   r10 _ _ h
  · replace h := sx_f h hc1
    refine sx_bipush (v := 17) (pc2 := 10) hX d_To_sortOf_8 (by decide) rfl ?_
    exact sx_iret hX hE h d_To_sortOf_10
theorem cl_To_58 {X : sx_T} {K : sx_K} {cc : ByteArray} {nL : Nat} {ret : Option FieldType} {rm : Room} {l : Launch} {pc pc2 : Nat} {lv : List (Nat × Value)} {st : List Value} {σ : sx_M} {τ : sx_L} {x1 : Int32} {x2 : Int32} {Q : Int32 → sx_M → Prop} (hX : sx_C X K cc nL "SensorTree$Tokens" ret rm l) (hK : kx_C K) (h : wp_To_sortOf x1 x2 σ Q)  (hR : rm_To_sortOf.frames + 1 ≤ rm.frames ∧ 8 + (3 + 11) + rm_To_sortOf.locals ≤ rm.locals) (hst : (st.map fun v => v.category).sum ≤ 8) (hd : decode cc pc = .ok (.invokestatic 58, 3)) (hpc : pc + 3 = pc2) (kk : ∀ (r : Int32) (σ2 : sx_M) (τ2 : sx_L), Q r σ2 → sx_G X K nL pc2 lv (.int r :: st) (sx_H K σ2 τ2)) : sx_G X K nL pc lv (.int x2 :: .int x1 :: .ref (K.2.2.1 1 0 0) :: st) (sx_H K σ τ) :=
  sx_callSi (Q := fun r σ _ => Q r σ) (As := [.ref (K.2.2.1 1 0 0), .int x1, .int x2]) hX (c_To_sortOf hK x1 x2 σ τ Q  h) lk_183 hy_To_sortOf lk_181 lk_149 lk_182 ⟨rfl, rfl⟩ hR hst rfl hd hpc kk
def y_To_judge : MethodName := ⟨"SensorTree$Tokens", "judge", "(II)V"⟩
theorem hy_To_judge : y_To_judge.cls ≠ "java/lang/invoke/MethodHandle" ∧ y_To_judge.cls ≠ "java/lang/invoke/VarHandle" ∧ (parseMethodDescriptor y_To_judge.desc).map (fun d => d.parameters.length) = some 2 := by decide +kernel
theorem d_To_judge_0 : decode prog_10_method_4_code 0 = .ok (.aload_n 0, 1) := by decide +kernel
theorem d_To_judge_1 : decode prog_10_method_4_code 1 = .ok (.getfield 37, 3) := by decide +kernel
theorem d_To_judge_4 : decode prog_10_method_4_code 4 = .ok (.aload_n 0, 1) := by decide +kernel
theorem d_To_judge_5 : decode prog_10_method_4_code 5 = .ok (.getfield 33, 3) := by decide +kernel
theorem d_To_judge_8 : decode prog_10_method_4_code 8 = .ok (.invokevirtual 62, 3) := by decide +kernel
theorem d_To_judge_11 : decode prog_10_method_4_code 11 = .ok (.if_icmp .lt 7, 3) := by decide +kernel
theorem d_To_judge_14 : decode prog_10_method_4_code 14 = .ok (.iconst 1, 1) := by decide +kernel
theorem d_To_judge_15 : decode prog_10_method_4_code 15 = .ok (.goto 4, 3) := by decide +kernel
theorem d_To_judge_18 : decode prog_10_method_4_code 18 = .ok (.iconst 0, 1) := by decide +kernel
theorem d_To_judge_19 : decode prog_10_method_4_code 19 = .ok (.istore_n 3, 1) := by decide +kernel
theorem d_To_judge_20 : decode prog_10_method_4_code 20 = .ok (.iload_n 3, 1) := by decide +kernel
theorem d_To_judge_21 : decode prog_10_method_4_code 21 = .ok (.ifCond .eq 21, 3) := by decide +kernel
theorem d_To_judge_24 : decode prog_10_method_4_code 24 = .ok (.iload_n 1, 1) := by decide +kernel
theorem d_To_judge_25 : decode prog_10_method_4_code 25 = .ok (.invokestatic 75, 3) := by decide +kernel
theorem d_To_judge_28 : decode prog_10_method_4_code 28 = .ok (.invokevirtual 79, 3) := by decide +kernel
theorem d_To_judge_31 : decode prog_10_method_4_code 31 = .ok (.ifCond .ne 7, 3) := by decide +kernel
theorem d_To_judge_34 : decode prog_10_method_4_code 34 = .ok (.iconst 1, 1) := by decide +kernel
theorem d_To_judge_35 : decode prog_10_method_4_code 35 = .ok (.goto 22, 3) := by decide +kernel
theorem d_To_judge_38 : decode prog_10_method_4_code 38 = .ok (.iconst 0, 1) := by decide +kernel
theorem d_To_judge_39 : decode prog_10_method_4_code 39 = .ok (.goto 18, 3) := by decide +kernel
theorem d_To_judge_42 : decode prog_10_method_4_code 42 = .ok (.iload_n 1, 1) := by decide +kernel
theorem d_To_judge_43 : decode prog_10_method_4_code 43 = .ok (.aload_n 0, 1) := by decide +kernel
theorem d_To_judge_44 : decode prog_10_method_4_code 44 = .ok (.getfield 33, 3) := by decide +kernel
theorem d_To_judge_47 : decode prog_10_method_4_code 47 = .ok (.aload_n 0, 1) := by decide +kernel
theorem d_To_judge_48 : decode prog_10_method_4_code 48 = .ok (.getfield 37, 3) := by decide +kernel
theorem d_To_judge_51 : decode prog_10_method_4_code 51 = .ok (.invokevirtual 83, 3) := by decide +kernel
theorem d_To_judge_54 : decode prog_10_method_4_code 54 = .ok (.invokestatic 87, 3) := by decide +kernel
theorem d_To_judge_57 : decode prog_10_method_4_code 57 = .ok (.istore 4, 2) := by decide +kernel
theorem d_To_judge_59 : decode prog_10_method_4_code 59 = .ok (.iload 4, 2) := by decide +kernel
theorem d_To_judge_61 : decode prog_10_method_4_code 61 = .ok (.ifCond .ne 16, 3) := by decide +kernel
theorem d_To_judge_64 : decode prog_10_method_4_code 64 = .ok (.aload_n 0, 1) := by decide +kernel
theorem d_To_judge_65 : decode prog_10_method_4_code 65 = .ok (.iconst 1, 1) := by decide +kernel
theorem d_To_judge_66 : decode prog_10_method_4_code 66 = .ok (.putfield 25, 3) := by decide +kernel
theorem d_To_judge_69 : decode prog_10_method_4_code 69 = .ok (.aload_n 0, 1) := by decide +kernel
theorem d_To_judge_70 : decode prog_10_method_4_code 70 = .ok (.iload_n 2, 1) := by decide +kernel
theorem d_To_judge_71 : decode prog_10_method_4_code 71 = .ok (.putfield 28, 3) := by decide +kernel
theorem d_To_judge_74 : decode prog_10_method_4_code 74 = .ok (.goto 35, 3) := by decide +kernel
theorem d_To_judge_77 : decode prog_10_method_4_code 77 = .ok (.aload_n 0, 1) := by decide +kernel
theorem d_To_judge_78 : decode prog_10_method_4_code 78 = .ok (.getfield 21, 3) := by decide +kernel
theorem d_To_judge_81 : decode prog_10_method_4_code 81 = .ok (.sipush 400, 3) := by decide +kernel
theorem d_To_judge_84 : decode prog_10_method_4_code 84 = .ok (.if_icmp .ge 15, 3) := by decide +kernel
theorem d_To_judge_87 : decode prog_10_method_4_code 87 = .ok (.iload_n 3, 1) := by decide +kernel
theorem d_To_judge_88 : decode prog_10_method_4_code 88 = .ok (.ifCond .eq 21, 3) := by decide +kernel
theorem d_To_judge_91 : decode prog_10_method_4_code 91 = .ok (.aload_n 0, 1) := by decide +kernel
theorem d_To_judge_92 : decode prog_10_method_4_code 92 = .ok (.iload_n 1, 1) := by decide +kernel
theorem d_To_judge_93 : decode prog_10_method_4_code 93 = .ok (.invokevirtual 91, 3) := by decide +kernel
theorem d_To_judge_96 : decode prog_10_method_4_code 96 = .ok (.ifCond .eq 13, 3) := by decide +kernel
theorem d_To_judge_99 : decode prog_10_method_4_code 99 = .ok (.aload_n 0, 1) := by decide +kernel
theorem d_To_judge_100 : decode prog_10_method_4_code 100 = .ok (.iconst 2, 1) := by decide +kernel
theorem d_To_judge_101 : decode prog_10_method_4_code 101 = .ok (.putfield 25, 3) := by decide +kernel
theorem d_To_judge_104 : decode prog_10_method_4_code 104 = .ok (.aload_n 0, 1) := by decide +kernel
theorem d_To_judge_105 : decode prog_10_method_4_code 105 = .ok (.iload_n 2, 1) := by decide +kernel
theorem d_To_judge_106 : decode prog_10_method_4_code 106 = .ok (.putfield 28, 3) := by decide +kernel
theorem d_To_judge_109 : decode prog_10_method_4_code 109 = .ok (.return_, 1) := by decide +kernel
def wp_To_judge_b109   (Q : sx_M → Prop)  (σ : sx_M) : Prop := Q σ
def wp_To_judge_b99   (Q : sx_M → Prop) (v2 : Int32) (σ : sx_M) : Prop := ∀ σ1 : sx_M, σ1 = sx_u σ 4 0 0 4 2 → (∀ σ2 : sx_M, σ2 = sx_u σ1 4 0 0 5 v2 → (wp_To_judge_b109 Q σ2))
def wp_To_judge_b57   (Q : sx_M → Prop) (v1 : Int32) (v2 : Int32) (v3 : Int32) (w0 : Int32) (σ : sx_M) : Prop := if w0 = 0 then (∀ σ8 : sx_M, σ8 = sx_u σ 4 0 0 4 1 → (∀ σ9 : sx_M, σ9 = sx_u σ8 4 0 0 5 v2 → (wp_To_judge_b109 Q σ9))) else (if 400 ≤ σ 4 0 0 3 then (wp_To_judge_b99 Q v2 σ) else (if v3 = 0 then (wp_To_judge_b109 Q σ) else (wp_To_isOneTooMany v1 σ (fun r6 σ6 => if r6 = 0 then (wp_To_judge_b109 Q σ6) else (wp_To_judge_b99 Q v2 σ6)))))
def wp_To_judge_b19   (Q : sx_M → Prop) (v1 : Int32) (v2 : Int32) (w0 : Int32) (σ : sx_M) : Prop := if w0 = 0 then ((vp_in (σ 4 0 0 6) 6 ∧ vp_in (σ 4 0 0 7) (kx_len.getD (σ 4 0 0 6).toNatClampNeg 0)) ∧ (wp_To_isOf v1 (sx_tc (σ 4 0 0 6) (σ 4 0 0 7)) σ (fun r12 σ12 => wp_To_judge_b57 Q v1 v2 w0 r12 σ12))) else (wp_To_shapeOf v1 σ (fun r13 σ13 => vp_in r13 6 ∧ (if sx_te r13 = 0 then (wp_To_judge_b57 Q v1 v2 w0 1 σ13) else (wp_To_judge_b57 Q v1 v2 w0 0 σ13))))
def wp_To_judge (x1 : Int32) (x2 : Int32) (σ : sx_M) (Q : sx_M → Prop) : Prop := vp_in (σ 4 0 0 6) 6 ∧ (if σ 4 0 0 7 < sx_tl (σ 4 0 0 6) then (wp_To_judge_b19 Q x1 x2 0 σ) else (wp_To_judge_b19 Q x1 x2 1 σ))
abbrev rm_To_judge : Room := { frames := 4, cells := 0, slots := 0, locals := 85 }
set_option maxRecDepth 100000 in
set_option maxHeartbeats 4000000 in
theorem g_To_judge_b109 {l : Launch} {K : sx_K} {X : sx_T}   {Q : sx_M → Prop} (hX : sx_C X K prog_10_method_4_code 5 "SensorTree$Tokens" none rm_To_judge l) (hK : kx_C K) (hE : sx_E X K (sx_Qv K (fun σ _ => Q σ)))   (σ : sx_M) (τ : sx_L)  (h : wp_To_judge_b109 Q  σ) : sx_G X K 5 109 [] [] (sx_H K σ τ) := by
  unfold wp_To_judge_b109 at h
  exact sx_vret hX hE h d_To_judge_109
set_option maxRecDepth 100000 in
set_option maxHeartbeats 4000000 in
theorem g_To_judge_b99 {l : Launch} {K : sx_K} {X : sx_T}   {Q : sx_M → Prop} (hX : sx_C X K prog_10_method_4_code 5 "SensorTree$Tokens" none rm_To_judge l) (hK : kx_C K) (hE : sx_E X K (sx_Qv K (fun σ _ => Q σ)))  (v2 : Int32) (σ : sx_M) (τ : sx_L)  (h : wp_To_judge_b99 Q  v2 σ) : sx_G X K 5 99 [(0, .ref (K.2.2.1 4 0 0)), (2, .int v2)] [] (sx_H K σ τ) := by
  unfold wp_To_judge_b99 at h
  refine sx_aload_n (pc2 := 100) hX 0 d_To_judge_99 rfl rfl rfl ?_
  refine sx_iconst (v := 2) (pc2 := 101) hX d_To_judge_100 (by decide) rfl ?_
  refine fp_To_25 (pc2 := 104) hX (hK 4 0 0 (by decide) (by decide)) d_To_judge_101 rfl ?_
  refine sx_nm (fun σ1 e1 => ?_)
  replace h := h σ1 e1
  refine sx_aload_n (pc2 := 105) hX 0 d_To_judge_104 rfl rfl rfl ?_
  refine sx_iload_n (pc2 := 106) hX 1 d_To_judge_105 rfl rfl rfl ?_
  refine fp_To_28 (pc2 := 109) hX (hK 4 0 0 (by decide) (by decide)) d_To_judge_106 rfl ?_
  refine sx_nm (fun σ2 e2 => ?_)
  replace h := h σ2 e2
  refine sx_sub [] [] rfl ?_
  exact g_To_judge_b109 hX hK hE   _ _ h
set_option maxRecDepth 100000 in
set_option maxHeartbeats 4000000 in
theorem g_To_judge_b57 {l : Launch} {K : sx_K} {X : sx_T}   {Q : sx_M → Prop} (hX : sx_C X K prog_10_method_4_code 5 "SensorTree$Tokens" none rm_To_judge l) (hK : kx_C K) (hE : sx_E X K (sx_Qv K (fun σ _ => Q σ)))  (v1 : Int32) (v2 : Int32) (v3 : Int32) (w0 : Int32) (σ : sx_M) (τ : sx_L)  (h : wp_To_judge_b57 Q  v1 v2 v3 w0 σ) : sx_G X K 5 57 [(0, .ref (K.2.2.1 4 0 0)), (1, .int v1), (2, .int v2), (3, .int v3)] [.int w0] (sx_H K σ τ) := by
  unfold wp_To_judge_b57 at h
  refine sx_istore (pc2 := 59) hX _ [(0, .ref (K.2.2.1 4 0 0)), (1, .int v1), (2, .int v2), (3, .int v3), (4, .int w0)] [1, 2, 3, 4, 0] d_To_judge_57 (by decide) rfl rfl rfl ?_
  refine sx_iload (pc2 := 61) hX 4 d_To_judge_59 rfl rfl ?_
  refine sx_if_ne (tgt := 77) (pc2 := 64) hX d_To_judge_61 (by decide) rfl (fun hc3 => ?_) (fun hc3 => ?_)
  · replace h := sx_f h hc3
    refine sx_aload_n (pc2 := 78) hX 0 d_To_judge_77 rfl rfl rfl ?_
    refine fg_To_21 (pc2 := 81) hX (hK 4 0 0 (by decide) (by decide)) d_To_judge_78 rfl ?_
    refine sx_sipush (v := 400) (pc2 := 84) hX d_To_judge_81 (by decide) rfl ?_
    refine sx_icmp_ge (tgt := 99) (pc2 := 87) hX d_To_judge_84 (by decide) rfl (fun hc4 => ?_) (fun hc4 => ?_)
    · replace h := sx_t h hc4
      refine sx_sub [(0, .ref (K.2.2.1 4 0 0)), (2, .int v2)] [0, 2] rfl ?_
      exact g_To_judge_b99 hX hK hE   v2 _ _ h
    · replace h := sx_f h hc4
      refine sx_iload_n (pc2 := 88) hX 3 d_To_judge_87 rfl rfl rfl ?_
      refine sx_if_eq (tgt := 109) (pc2 := 91) hX d_To_judge_88 (by decide) rfl (fun hc5 => ?_) (fun hc5 => ?_)
      · replace h := sx_t h hc5
        refine sx_sub [] [] rfl ?_
        exact g_To_judge_b109 hX hK hE   _ _ h
      · replace h := sx_f h hc5
        refine sx_aload_n (pc2 := 92) hX 0 d_To_judge_91 rfl rfl rfl ?_
        refine sx_iload_n (pc2 := 93) hX 1 d_To_judge_92 rfl rfl rfl ?_
        refine cl_To_91 (pc2 := 96) hX hK h  ⟨Nat.le_of_ble_eq_true rfl, Nat.le_of_ble_eq_true rfl⟩ (Nat.le_of_ble_eq_true rfl) d_To_judge_93 rfl (fun r6 σ6 τ6 h => ?_)
        refine sx_if_eq (tgt := 109) (pc2 := 99) hX d_To_judge_96 (by decide) rfl (fun hc7 => ?_) (fun hc7 => ?_)
        · replace h := sx_t h hc7
          refine sx_sub [] [] rfl ?_
          exact g_To_judge_b109 hX hK hE   _ _ h
        · replace h := sx_f h hc7
          refine sx_sub [(0, .ref (K.2.2.1 4 0 0)), (2, .int v2)] [0, 2] rfl ?_
          exact g_To_judge_b99 hX hK hE   v2 _ _ h
  · replace h := sx_t h hc3
    refine sx_aload_n (pc2 := 65) hX 0 d_To_judge_64 rfl rfl rfl ?_
    refine sx_iconst (v := 1) (pc2 := 66) hX d_To_judge_65 (by decide) rfl ?_
    refine fp_To_25 (pc2 := 69) hX (hK 4 0 0 (by decide) (by decide)) d_To_judge_66 rfl ?_
    refine sx_nm (fun σ8 e8 => ?_)
    replace h := h σ8 e8
    refine sx_aload_n (pc2 := 70) hX 0 d_To_judge_69 rfl rfl rfl ?_
    refine sx_iload_n (pc2 := 71) hX 2 d_To_judge_70 rfl rfl rfl ?_
    refine fp_To_28 (pc2 := 74) hX (hK 4 0 0 (by decide) (by decide)) d_To_judge_71 rfl ?_
    refine sx_nm (fun σ9 e9 => ?_)
    replace h := h σ9 e9
    refine sx_goto (tgt := 109) hX d_To_judge_74 (by decide) ?_
    refine sx_sub [] [] rfl ?_
    exact g_To_judge_b109 hX hK hE   _ _ h
set_option maxRecDepth 100000 in
set_option maxHeartbeats 4000000 in
theorem g_To_judge_b19 {l : Launch} {K : sx_K} {X : sx_T}   {Q : sx_M → Prop} (hX : sx_C X K prog_10_method_4_code 5 "SensorTree$Tokens" none rm_To_judge l) (hK : kx_C K) (hE : sx_E X K (sx_Qv K (fun σ _ => Q σ)))  (v1 : Int32) (v2 : Int32) (w0 : Int32) (σ : sx_M) (τ : sx_L)  (h : wp_To_judge_b19 Q  v1 v2 w0 σ) : sx_G X K 5 19 [(0, .ref (K.2.2.1 4 0 0)), (1, .int v1), (2, .int v2)] [.int w0] (sx_H K σ τ) := by
  unfold wp_To_judge_b19 at h
  refine sx_istore_n (pc2 := 20) hX _ [(0, .ref (K.2.2.1 4 0 0)), (1, .int v1), (2, .int v2), (3, .int w0)] [1, 2, 3, 0] d_To_judge_19 rfl (by decide) rfl rfl rfl ?_
  refine sx_iload_n (pc2 := 21) hX 3 d_To_judge_20 rfl rfl rfl ?_
  refine sx_if_eq (tgt := 42) (pc2 := 24) hX d_To_judge_21 (by decide) rfl (fun hc10 => ?_) (fun hc10 => ?_)
  · replace h := sx_t h hc10
    refine sx_iload_n (pc2 := 43) hX 1 d_To_judge_42 rfl rfl rfl ?_
    refine sx_aload_n (pc2 := 44) hX 0 d_To_judge_43 rfl rfl rfl ?_
    refine fg_To_33 (pc2 := 47) hX (hK 4 0 0 (by decide) (by decide)) d_To_judge_44 rfl ?_
    refine sx_aload_n (pc2 := 48) hX 0 d_To_judge_47 rfl rfl rfl ?_
    refine fg_To_37 (pc2 := 51) hX (hK 4 0 0 (by decide) (by decide)) d_To_judge_48 rfl ?_
    obtain ⟨hc11, h⟩ := h
    refine sx_charAt (pc2 := 54) hX hc11.1 hc11.2 lk_13 ⟨Nat.le_of_ble_eq_true rfl, Nat.le_of_ble_eq_true rfl⟩ (Nat.le_of_ble_eq_true rfl) d_To_judge_51 rfl ?_
    refine cl_To_87 (pc2 := 57) hX hK h  ⟨Nat.le_of_ble_eq_true rfl, Nat.le_of_ble_eq_true rfl⟩ (Nat.le_of_ble_eq_true rfl) d_To_judge_54 rfl (fun r12 σ12 τ12 h => ?_)
    exact g_To_judge_b57 hX hK hE   v1 v2 w0 r12 _ _ h
  · replace h := sx_f h hc10
    refine sx_iload_n (pc2 := 25) hX 1 d_To_judge_24 rfl rfl rfl ?_
    refine cl_To_75 (pc2 := 28) hX hK h  ⟨Nat.le_of_ble_eq_true rfl, Nat.le_of_ble_eq_true rfl⟩ (Nat.le_of_ble_eq_true rfl) d_To_judge_25 rfl (fun r13 σ13 τ13 h => ?_)
    obtain ⟨hc14, h⟩ := h
    refine sx_sempty (pc2 := 31) hX hc14 lk_14 ⟨Nat.le_of_ble_eq_true rfl, Nat.le_of_ble_eq_true rfl⟩ (Nat.le_of_ble_eq_true rfl) d_To_judge_28 rfl ?_
    refine sx_if_ne (tgt := 38) (pc2 := 34) hX d_To_judge_31 (by decide) rfl (fun hc15 => ?_) (fun hc15 => ?_)
    · replace h := sx_f h hc15
      refine sx_iconst (v := 0) (pc2 := 39) hX d_To_judge_38 (by decide) rfl ?_
      refine sx_goto (tgt := 57) hX d_To_judge_39 (by decide) ?_
      exact g_To_judge_b57 hX hK hE   v1 v2 w0 0 _ _ h
    · replace h := sx_t h hc15
      refine sx_iconst (v := 1) (pc2 := 35) hX d_To_judge_34 (by decide) rfl ?_
      refine sx_goto (tgt := 57) hX d_To_judge_35 (by decide) ?_
      exact g_To_judge_b57 hX hK hE   v1 v2 w0 1 _ _ h
set_option maxRecDepth 100000 in
set_option maxHeartbeats 4000000 in
theorem c_To_judge {l : Launch} {K : sx_K} (hK : kx_C K) (x1 : Int32) (x2 : Int32) (σ : sx_M) (τ : sx_L) (Q : sx_M → Prop)  (h : wp_To_judge x1 x2 σ Q) : Met l y_To_judge (sx_wd y_To_judge prog_10_method_4_code 5 none) rm_To_judge (sx_Pc K [.ref (K.2.2.1 4 0 0), .int x1, .int x2] σ τ) (sx_Qv K (fun σ _ => Q σ)) 0 0 (sx_A K) := by
  refine sx_met (by decide) (Nat.le_of_ble_eq_true rfl) (fun X hX hE => ?_)
  replace hX : sx_C X K prog_10_method_4_code 5 "SensorTree$Tokens" none rm_To_judge l := hX
  show sx_G X K 5 0 [(0, .ref (K.2.2.1 4 0 0)), (1, .int x1), (2, .int x2)] [] (sx_H K σ τ)
  unfold wp_To_judge at h
  refine sx_aload_n (pc2 := 1) hX 0 d_To_judge_0 rfl rfl rfl ?_
  refine fg_To_37 (pc2 := 4) hX (hK 4 0 0 (by decide) (by decide)) d_To_judge_1 rfl ?_
  refine sx_aload_n (pc2 := 5) hX 0 d_To_judge_4 rfl rfl rfl ?_
  refine fg_To_33 (pc2 := 8) hX (hK 4 0 0 (by decide) (by decide)) d_To_judge_5 rfl ?_
  obtain ⟨hc16, h⟩ := h
  refine sx_slen (pc2 := 11) hX hc16 lk_12 ⟨Nat.le_of_ble_eq_true rfl, Nat.le_of_ble_eq_true rfl⟩ (Nat.le_of_ble_eq_true rfl) d_To_judge_8 rfl ?_
  refine sx_icmp_lt (tgt := 18) (pc2 := 14) hX d_To_judge_11 (by decide) rfl (fun hc17 => ?_) (fun hc17 => ?_)
  · replace h := sx_t h hc17
    refine sx_iconst (v := 0) (pc2 := 19) hX d_To_judge_18 (by decide) rfl ?_
    exact g_To_judge_b19 hX hK hE   x1 x2 0 _ _ h
  · replace h := sx_f h hc17
    refine sx_iconst (v := 1) (pc2 := 15) hX d_To_judge_14 (by decide) rfl ?_
    refine sx_goto (tgt := 19) hX d_To_judge_15 (by decide) ?_
    exact g_To_judge_b19 hX hK hE   x1 x2 1 _ _ h
theorem cl_To_67 {X : sx_T} {K : sx_K} {cc : ByteArray} {nL : Nat} {ret : Option FieldType} {rm : Room} {l : Launch} {pc pc2 : Nat} {lv : List (Nat × Value)} {st : List Value} {σ : sx_M} {τ : sx_L} {x1 : Int32} {x2 : Int32} {Q : sx_M → Prop} (hX : sx_C X K cc nL "SensorTree$Tokens" ret rm l) (hK : kx_C K) (h : wp_To_judge x1 x2 σ Q)  (hR : rm_To_judge.frames + 1 ≤ rm.frames ∧ 8 + (5 + 11) + rm_To_judge.locals ≤ rm.locals) (hst : (st.map fun v => v.category).sum ≤ 8) (hd : decode cc pc = .ok (.invokevirtual 67, 3)) (hpc : pc + 3 = pc2) (kk : ∀ (σ2 : sx_M) (τ2 : sx_L), Q σ2 → sx_G X K nL pc2 lv (st) (sx_H K σ2 τ2)) : sx_G X K nL pc lv (.int x2 :: .int x1 :: .ref (K.2.2.1 4 0 0) :: st) (sx_H K σ τ) :=
  sx_callVv (Q := fun σ _ => Q σ) (As := [.int x1, .int x2]) hX (c_To_judge hK x1 x2 σ τ Q  h) (hK 4 0 0 (by decide) (by decide)) rfl rfl lk_169 ls_3 hy_To_judge lk_167 lk_149 lk_168 ⟨rfl, rfl⟩ hR hst rfl hd hpc kk
def y_To_keep : MethodName := ⟨"SensorTree$Tokens", "keep", "(III)V"⟩
theorem hy_To_keep : y_To_keep.cls ≠ "java/lang/invoke/MethodHandle" ∧ y_To_keep.cls ≠ "java/lang/invoke/VarHandle" ∧ (parseMethodDescriptor y_To_keep.desc).map (fun d => d.parameters.length) = some 3 := by decide +kernel
theorem d_To_keep_0 : decode prog_10_method_6_code 0 = .ok (.aload_n 0, 1) := by decide +kernel
theorem d_To_keep_1 : decode prog_10_method_6_code 1 = .ok (.getfield 37, 3) := by decide +kernel
theorem d_To_keep_4 : decode prog_10_method_6_code 4 = .ok (.aload_n 0, 1) := by decide +kernel
theorem d_To_keep_5 : decode prog_10_method_6_code 5 = .ok (.getfield 33, 3) := by decide +kernel
theorem d_To_keep_8 : decode prog_10_method_6_code 8 = .ok (.invokevirtual 62, 3) := by decide +kernel
theorem d_To_keep_11 : decode prog_10_method_6_code 11 = .ok (.if_icmp .lt 56, 3) := by decide +kernel
theorem d_To_keep_14 : decode prog_10_method_6_code 14 = .ok (.aload_n 0, 1) := by decide +kernel
theorem d_To_keep_15 : decode prog_10_method_6_code 15 = .ok (.iload_n 1, 1) := by decide +kernel
theorem d_To_keep_16 : decode prog_10_method_6_code 16 = .ok (.invokestatic 75, 3) := by decide +kernel
theorem d_To_keep_19 : decode prog_10_method_6_code 19 = .ok (.putfield 33, 3) := by decide +kernel
theorem d_To_keep_22 : decode prog_10_method_6_code 22 = .ok (.aload_n 0, 1) := by decide +kernel
theorem d_To_keep_23 : decode prog_10_method_6_code 23 = .ok (.iconst 0, 1) := by decide +kernel
theorem d_To_keep_24 : decode prog_10_method_6_code 24 = .ok (.putfield 37, 3) := by decide +kernel
theorem d_To_keep_27 : decode prog_10_method_6_code 27 = .ok (.aload_n 0, 1) := by decide +kernel
theorem d_To_keep_28 : decode prog_10_method_6_code 28 = .ok (.dup, 1) := by decide +kernel
theorem d_To_keep_29 : decode prog_10_method_6_code 29 = .ok (.getfield 40, 3) := by decide +kernel
theorem d_To_keep_32 : decode prog_10_method_6_code 32 = .ok (.iload_n 1, 1) := by decide +kernel
theorem d_To_keep_33 : decode prog_10_method_6_code 33 = .ok (.ifCond .ne 7, 3) := by decide +kernel
theorem d_To_keep_36 : decode prog_10_method_6_code 36 = .ok (.iconst 1, 1) := by decide +kernel
theorem d_To_keep_37 : decode prog_10_method_6_code 37 = .ok (.goto 4, 3) := by decide +kernel
theorem d_To_keep_40 : decode prog_10_method_6_code 40 = .ok (.iconst 0, 1) := by decide +kernel
theorem d_To_keep_41 : decode prog_10_method_6_code 41 = .ok (.iadd, 1) := by decide +kernel
theorem d_To_keep_42 : decode prog_10_method_6_code 42 = .ok (.putfield 40, 3) := by decide +kernel
theorem d_To_keep_45 : decode prog_10_method_6_code 45 = .ok (.aload_n 0, 1) := by decide +kernel
theorem d_To_keep_46 : decode prog_10_method_6_code 46 = .ok (.dup, 1) := by decide +kernel
theorem d_To_keep_47 : decode prog_10_method_6_code 47 = .ok (.getfield 43, 3) := by decide +kernel
theorem d_To_keep_50 : decode prog_10_method_6_code 50 = .ok (.iload_n 1, 1) := by decide +kernel
theorem d_To_keep_51 : decode prog_10_method_6_code 51 = .ok (.iconst 1, 1) := by decide +kernel
theorem d_To_keep_52 : decode prog_10_method_6_code 52 = .ok (.if_icmp .ne 7, 3) := by decide +kernel
theorem d_To_keep_55 : decode prog_10_method_6_code 55 = .ok (.iconst 1, 1) := by decide +kernel
theorem d_To_keep_56 : decode prog_10_method_6_code 56 = .ok (.goto 4, 3) := by decide +kernel
theorem d_To_keep_59 : decode prog_10_method_6_code 59 = .ok (.iconst 0, 1) := by decide +kernel
theorem d_To_keep_60 : decode prog_10_method_6_code 60 = .ok (.iadd, 1) := by decide +kernel
theorem d_To_keep_61 : decode prog_10_method_6_code 61 = .ok (.putfield 43, 3) := by decide +kernel
theorem d_To_keep_64 : decode prog_10_method_6_code 64 = .ok (.goto 13, 3) := by decide +kernel
theorem d_To_keep_67 : decode prog_10_method_6_code 67 = .ok (.aload_n 0, 1) := by decide +kernel
theorem d_To_keep_68 : decode prog_10_method_6_code 68 = .ok (.dup, 1) := by decide +kernel
theorem d_To_keep_69 : decode prog_10_method_6_code 69 = .ok (.getfield 37, 3) := by decide +kernel
theorem d_To_keep_72 : decode prog_10_method_6_code 72 = .ok (.iconst 1, 1) := by decide +kernel
theorem d_To_keep_73 : decode prog_10_method_6_code 73 = .ok (.iadd, 1) := by decide +kernel
theorem d_To_keep_74 : decode prog_10_method_6_code 74 = .ok (.putfield 37, 3) := by decide +kernel
theorem d_To_keep_77 : decode prog_10_method_6_code 77 = .ok (.aload_n 0, 1) := by decide +kernel
theorem d_To_keep_78 : decode prog_10_method_6_code 78 = .ok (.getfield 21, 3) := by decide +kernel
theorem d_To_keep_81 : decode prog_10_method_6_code 81 = .ok (.sipush 400, 3) := by decide +kernel
theorem d_To_keep_84 : decode prog_10_method_6_code 84 = .ok (.if_icmp .ge 45, 3) := by decide +kernel
theorem d_To_keep_87 : decode prog_10_method_6_code 87 = .ok (.aload_n 0, 1) := by decide +kernel
theorem d_To_keep_88 : decode prog_10_method_6_code 88 = .ok (.getfield 11, 3) := by decide +kernel
theorem d_To_keep_91 : decode prog_10_method_6_code 91 = .ok (.aload_n 0, 1) := by decide +kernel
theorem d_To_keep_92 : decode prog_10_method_6_code 92 = .ok (.getfield 21, 3) := by decide +kernel
theorem d_To_keep_95 : decode prog_10_method_6_code 95 = .ok (.iload_n 1, 1) := by decide +kernel
theorem d_To_keep_96 : decode prog_10_method_6_code 96 = .ok (.iastore, 1) := by decide +kernel
theorem d_To_keep_97 : decode prog_10_method_6_code 97 = .ok (.aload_n 0, 1) := by decide +kernel
theorem d_To_keep_98 : decode prog_10_method_6_code 98 = .ok (.getfield 15, 3) := by decide +kernel
theorem d_To_keep_101 : decode prog_10_method_6_code 101 = .ok (.aload_n 0, 1) := by decide +kernel
theorem d_To_keep_102 : decode prog_10_method_6_code 102 = .ok (.getfield 21, 3) := by decide +kernel
theorem d_To_keep_105 : decode prog_10_method_6_code 105 = .ok (.iload_n 2, 1) := by decide +kernel
theorem d_To_keep_106 : decode prog_10_method_6_code 106 = .ok (.iastore, 1) := by decide +kernel
theorem d_To_keep_107 : decode prog_10_method_6_code 107 = .ok (.aload_n 0, 1) := by decide +kernel
theorem d_To_keep_108 : decode prog_10_method_6_code 108 = .ok (.getfield 18, 3) := by decide +kernel
theorem d_To_keep_111 : decode prog_10_method_6_code 111 = .ok (.aload_n 0, 1) := by decide +kernel
theorem d_To_keep_112 : decode prog_10_method_6_code 112 = .ok (.getfield 21, 3) := by decide +kernel
theorem d_To_keep_115 : decode prog_10_method_6_code 115 = .ok (.iload_n 3, 1) := by decide +kernel
theorem d_To_keep_116 : decode prog_10_method_6_code 116 = .ok (.iload_n 2, 1) := by decide +kernel
theorem d_To_keep_117 : decode prog_10_method_6_code 117 = .ok (.isub, 1) := by decide +kernel
theorem d_To_keep_118 : decode prog_10_method_6_code 118 = .ok (.iastore, 1) := by decide +kernel
theorem d_To_keep_119 : decode prog_10_method_6_code 119 = .ok (.aload_n 0, 1) := by decide +kernel
theorem d_To_keep_120 : decode prog_10_method_6_code 120 = .ok (.dup, 1) := by decide +kernel
theorem d_To_keep_121 : decode prog_10_method_6_code 121 = .ok (.getfield 21, 3) := by decide +kernel
theorem d_To_keep_124 : decode prog_10_method_6_code 124 = .ok (.iconst 1, 1) := by decide +kernel
theorem d_To_keep_125 : decode prog_10_method_6_code 125 = .ok (.iadd, 1) := by decide +kernel
theorem d_To_keep_126 : decode prog_10_method_6_code 126 = .ok (.putfield 21, 3) := by decide +kernel
theorem d_To_keep_129 : decode prog_10_method_6_code 129 = .ok (.return_, 1) := by decide +kernel
def wp_To_keep_b129   (Q : sx_M → Prop)  (σ : sx_M) : Prop := Q σ
def wp_To_keep_b77   (Q : sx_M → Prop) (v1 : Int32) (v2 : Int32) (v3 : Int32) (σ : sx_M) : Prop := if 400 ≤ σ 4 0 0 3 then (wp_To_keep_b129 Q σ) else (vp_in (σ 4 0 0 3) 400 ∧ (∀ σ3 : sx_M, σ3 = sx_u σ 5 0 0 (σ 4 0 0 3).toNatClampNeg v1 → (vp_in (σ3 4 0 0 3) 400 ∧ (∀ σ5 : sx_M, σ5 = sx_u σ3 6 0 0 (σ3 4 0 0 3).toNatClampNeg v2 → (vp_in (σ5 4 0 0 3) 400 ∧ (∀ σ7 : sx_M, σ7 = sx_u σ5 7 0 0 (σ5 4 0 0 3).toNatClampNeg (v3 - v2) → (∀ σ8 : sx_M, σ8 = sx_u σ7 4 0 0 3 ((σ7 4 0 0 3) + 1) → (wp_To_keep_b129 Q σ8))))))))
def wp_To_keep_b60   (Q : sx_M → Prop) (v1 : Int32) (v2 : Int32) (v3 : Int32) (w1 : Int32) (w2 : Int32) (σ : sx_M) : Prop := ∀ σ9 : sx_M, σ9 = sx_u σ 4 0 0 9 (w1 + w2) → (wp_To_keep_b77 Q v1 v2 v3 σ9)
def wp_To_keep_b41   (Q : sx_M → Prop) (v1 : Int32) (v2 : Int32) (v3 : Int32) (w1 : Int32) (w2 : Int32) (σ : sx_M) : Prop := ∀ σ10 : sx_M, σ10 = sx_u σ 4 0 0 8 (w1 + w2) → (if v1 = 1 then (wp_To_keep_b60 Q v1 v2 v3 (σ10 4 0 0 9) 1 σ10) else (wp_To_keep_b60 Q v1 v2 v3 (σ10 4 0 0 9) 0 σ10))
def wp_To_keep (x1 : Int32) (x2 : Int32) (x3 : Int32) (σ : sx_M) (Q : sx_M → Prop) : Prop := vp_in (σ 4 0 0 6) 6 ∧ (if σ 4 0 0 7 < sx_tl (σ 4 0 0 6) then (∀ σ14 : sx_M, σ14 = sx_u σ 4 0 0 7 ((σ 4 0 0 7) + 1) → (wp_To_keep_b77 Q x1 x2 x3 σ14)) else (wp_To_shapeOf x1 σ (fun r15 σ15 => ∀ σ16 : sx_M, σ16 = sx_u σ15 4 0 0 6 r15 → (∀ σ17 : sx_M, σ17 = sx_u σ16 4 0 0 7 0 → (if x1 = 0 then (wp_To_keep_b41 Q x1 x2 x3 (σ17 4 0 0 8) 1 σ17) else (wp_To_keep_b41 Q x1 x2 x3 (σ17 4 0 0 8) 0 σ17))))))
abbrev rm_To_keep : Room := { frames := 2, cells := 0, slots := 0, locals := 40 }
set_option maxRecDepth 100000 in
set_option maxHeartbeats 4000000 in
theorem g_To_keep_b129 {l : Launch} {K : sx_K} {X : sx_T}   {Q : sx_M → Prop} (hX : sx_C X K prog_10_method_6_code 4 "SensorTree$Tokens" none rm_To_keep l) (hK : kx_C K) (hE : sx_E X K (sx_Qv K (fun σ _ => Q σ)))   (σ : sx_M) (τ : sx_L)  (h : wp_To_keep_b129 Q  σ) : sx_G X K 4 129 [] [] (sx_H K σ τ) := by
  unfold wp_To_keep_b129 at h
  exact sx_vret hX hE h d_To_keep_129
set_option maxRecDepth 100000 in
set_option maxHeartbeats 4000000 in
theorem g_To_keep_b77 {l : Launch} {K : sx_K} {X : sx_T}   {Q : sx_M → Prop} (hX : sx_C X K prog_10_method_6_code 4 "SensorTree$Tokens" none rm_To_keep l) (hK : kx_C K) (hE : sx_E X K (sx_Qv K (fun σ _ => Q σ)))  (v1 : Int32) (v2 : Int32) (v3 : Int32) (σ : sx_M) (τ : sx_L)  (h : wp_To_keep_b77 Q  v1 v2 v3 σ) : sx_G X K 4 77 [(0, .ref (K.2.2.1 4 0 0)), (1, .int v1), (2, .int v2), (3, .int v3)] [] (sx_H K σ τ) := by
  unfold wp_To_keep_b77 at h
  refine sx_aload_n (pc2 := 78) hX 0 d_To_keep_77 rfl rfl rfl ?_
  refine fg_To_21 (pc2 := 81) hX (hK 4 0 0 (by decide) (by decide)) d_To_keep_78 rfl ?_
  refine sx_sipush (v := 400) (pc2 := 84) hX d_To_keep_81 (by decide) rfl ?_
  refine sx_icmp_ge (tgt := 129) (pc2 := 87) hX d_To_keep_84 (by decide) rfl (fun hc1 => ?_) (fun hc1 => ?_)
  · replace h := sx_t h hc1
    refine sx_sub [] [] rfl ?_
    exact g_To_keep_b129 hX hK hE   _ _ h
  · replace h := sx_f h hc1
    refine sx_aload_n (pc2 := 88) hX 0 d_To_keep_87 rfl rfl rfl ?_
    refine fg_To_11 (pc2 := 91) hX (hK 4 0 0 (by decide) (by decide)) d_To_keep_88 rfl ?_
    refine sx_aload_n (pc2 := 92) hX 0 d_To_keep_91 rfl rfl rfl ?_
    refine fg_To_21 (pc2 := 95) hX (hK 4 0 0 (by decide) (by decide)) d_To_keep_92 rfl ?_
    refine sx_iload_n (pc2 := 96) hX 1 d_To_keep_95 rfl rfl rfl ?_
    obtain ⟨hc2, h⟩ := h
    refine sx_iast (pc2 := 97) hX (hK 5 0 0 (by decide) (by decide)) (fun _ => rfl) hc2 d_To_keep_96 rfl ?_
    refine sx_nm (fun σ3 e3 => ?_)
    replace h := h σ3 e3
    refine sx_aload_n (pc2 := 98) hX 0 d_To_keep_97 rfl rfl rfl ?_
    refine fg_To_15 (pc2 := 101) hX (hK 4 0 0 (by decide) (by decide)) d_To_keep_98 rfl ?_
    refine sx_aload_n (pc2 := 102) hX 0 d_To_keep_101 rfl rfl rfl ?_
    refine fg_To_21 (pc2 := 105) hX (hK 4 0 0 (by decide) (by decide)) d_To_keep_102 rfl ?_
    refine sx_iload_n (pc2 := 106) hX 2 d_To_keep_105 rfl rfl rfl ?_
    obtain ⟨hc4, h⟩ := h
    refine sx_iast (pc2 := 107) hX (hK 6 0 0 (by decide) (by decide)) (fun _ => rfl) hc4 d_To_keep_106 rfl ?_
    refine sx_nm (fun σ5 e5 => ?_)
    replace h := h σ5 e5
    refine sx_aload_n (pc2 := 108) hX 0 d_To_keep_107 rfl rfl rfl ?_
    refine fg_To_18 (pc2 := 111) hX (hK 4 0 0 (by decide) (by decide)) d_To_keep_108 rfl ?_
    refine sx_aload_n (pc2 := 112) hX 0 d_To_keep_111 rfl rfl rfl ?_
    refine fg_To_21 (pc2 := 115) hX (hK 4 0 0 (by decide) (by decide)) d_To_keep_112 rfl ?_
    refine sx_iload_n (pc2 := 116) hX 3 d_To_keep_115 rfl rfl rfl ?_
    refine sx_iload_n (pc2 := 117) hX 2 d_To_keep_116 rfl rfl rfl ?_
    refine sx_isub (pc2 := 118) hX d_To_keep_117 rfl ?_
    obtain ⟨hc6, h⟩ := h
    refine sx_iast (pc2 := 119) hX (hK 7 0 0 (by decide) (by decide)) (fun _ => rfl) hc6 d_To_keep_118 rfl ?_
    refine sx_nm (fun σ7 e7 => ?_)
    replace h := h σ7 e7
    refine sx_aload_n (pc2 := 120) hX 0 d_To_keep_119 rfl rfl rfl ?_
    refine sx_dup (pc2 := 121) hX d_To_keep_120 rfl rfl ?_
    refine fg_To_21 (pc2 := 124) hX (hK 4 0 0 (by decide) (by decide)) d_To_keep_121 rfl ?_
    refine sx_iconst (v := 1) (pc2 := 125) hX d_To_keep_124 (by decide) rfl ?_
    refine sx_iadd (pc2 := 126) hX d_To_keep_125 rfl ?_
    refine fp_To_21 (pc2 := 129) hX (hK 4 0 0 (by decide) (by decide)) d_To_keep_126 rfl ?_
    refine sx_nm (fun σ8 e8 => ?_)
    replace h := h σ8 e8
    refine sx_sub [] [] rfl ?_
    exact g_To_keep_b129 hX hK hE   _ _ h
set_option maxRecDepth 100000 in
set_option maxHeartbeats 4000000 in
theorem g_To_keep_b60 {l : Launch} {K : sx_K} {X : sx_T}   {Q : sx_M → Prop} (hX : sx_C X K prog_10_method_6_code 4 "SensorTree$Tokens" none rm_To_keep l) (hK : kx_C K) (hE : sx_E X K (sx_Qv K (fun σ _ => Q σ)))  (v1 : Int32) (v2 : Int32) (v3 : Int32) (w1 : Int32) (w2 : Int32) (σ : sx_M) (τ : sx_L)  (h : wp_To_keep_b60 Q  v1 v2 v3 w1 w2 σ) : sx_G X K 4 60 [(0, .ref (K.2.2.1 4 0 0)), (1, .int v1), (2, .int v2), (3, .int v3)] [.int w2, .int w1, .ref (K.2.2.1 4 0 0)] (sx_H K σ τ) := by
  unfold wp_To_keep_b60 at h
  refine sx_iadd (pc2 := 61) hX d_To_keep_60 rfl ?_
  refine fp_To_43 (pc2 := 64) hX (hK 4 0 0 (by decide) (by decide)) d_To_keep_61 rfl ?_
  refine sx_nm (fun σ9 e9 => ?_)
  replace h := h σ9 e9
  refine sx_goto (tgt := 77) hX d_To_keep_64 (by decide) ?_
  exact g_To_keep_b77 hX hK hE   v1 v2 v3 _ _ h
set_option maxRecDepth 100000 in
set_option maxHeartbeats 4000000 in
theorem g_To_keep_b41 {l : Launch} {K : sx_K} {X : sx_T}   {Q : sx_M → Prop} (hX : sx_C X K prog_10_method_6_code 4 "SensorTree$Tokens" none rm_To_keep l) (hK : kx_C K) (hE : sx_E X K (sx_Qv K (fun σ _ => Q σ)))  (v1 : Int32) (v2 : Int32) (v3 : Int32) (w1 : Int32) (w2 : Int32) (σ : sx_M) (τ : sx_L)  (h : wp_To_keep_b41 Q  v1 v2 v3 w1 w2 σ) : sx_G X K 4 41 [(0, .ref (K.2.2.1 4 0 0)), (1, .int v1), (2, .int v2), (3, .int v3)] [.int w2, .int w1, .ref (K.2.2.1 4 0 0)] (sx_H K σ τ) := by
  unfold wp_To_keep_b41 at h
  refine sx_iadd (pc2 := 42) hX d_To_keep_41 rfl ?_
  refine fp_To_40 (pc2 := 45) hX (hK 4 0 0 (by decide) (by decide)) d_To_keep_42 rfl ?_
  refine sx_nm (fun σ10 e10 => ?_)
  replace h := h σ10 e10
  refine sx_aload_n (pc2 := 46) hX 0 d_To_keep_45 rfl rfl rfl ?_
  refine sx_dup (pc2 := 47) hX d_To_keep_46 rfl rfl ?_
  refine fg_To_43 (pc2 := 50) hX (hK 4 0 0 (by decide) (by decide)) d_To_keep_47 rfl ?_
  refine sx_iload_n (pc2 := 51) hX 1 d_To_keep_50 rfl rfl rfl ?_
  refine sx_iconst (v := 1) (pc2 := 52) hX d_To_keep_51 (by decide) rfl ?_
  refine sx_icmp_ne (tgt := 59) (pc2 := 55) hX d_To_keep_52 (by decide) rfl (fun hc11 => ?_) (fun hc11 => ?_)
  · replace h := sx_f h hc11
    refine sx_iconst (v := 0) (pc2 := 60) hX d_To_keep_59 (by decide) rfl ?_
    exact g_To_keep_b60 hX hK hE   v1 v2 v3 (σ10 4 0 0 9) 0 _ _ h
  · replace h := sx_t h hc11
    refine sx_iconst (v := 1) (pc2 := 56) hX d_To_keep_55 (by decide) rfl ?_
    refine sx_goto (tgt := 60) hX d_To_keep_56 (by decide) ?_
    exact g_To_keep_b60 hX hK hE   v1 v2 v3 (σ10 4 0 0 9) 1 _ _ h
set_option maxRecDepth 100000 in
set_option maxHeartbeats 4000000 in
theorem c_To_keep {l : Launch} {K : sx_K} (hK : kx_C K) (x1 : Int32) (x2 : Int32) (x3 : Int32) (σ : sx_M) (τ : sx_L) (Q : sx_M → Prop)  (h : wp_To_keep x1 x2 x3 σ Q) : Met l y_To_keep (sx_wd y_To_keep prog_10_method_6_code 4 none) rm_To_keep (sx_Pc K [.ref (K.2.2.1 4 0 0), .int x1, .int x2, .int x3] σ τ) (sx_Qv K (fun σ _ => Q σ)) 0 0 (sx_A K) := by
  refine sx_met (by decide) (Nat.le_of_ble_eq_true rfl) (fun X hX hE => ?_)
  replace hX : sx_C X K prog_10_method_6_code 4 "SensorTree$Tokens" none rm_To_keep l := hX
  show sx_G X K 4 0 [(0, .ref (K.2.2.1 4 0 0)), (1, .int x1), (2, .int x2), (3, .int x3)] [] (sx_H K σ τ)
  unfold wp_To_keep at h
  refine sx_aload_n (pc2 := 1) hX 0 d_To_keep_0 rfl rfl rfl ?_
  refine fg_To_37 (pc2 := 4) hX (hK 4 0 0 (by decide) (by decide)) d_To_keep_1 rfl ?_
  refine sx_aload_n (pc2 := 5) hX 0 d_To_keep_4 rfl rfl rfl ?_
  refine fg_To_33 (pc2 := 8) hX (hK 4 0 0 (by decide) (by decide)) d_To_keep_5 rfl ?_
  obtain ⟨hc12, h⟩ := h
  refine sx_slen (pc2 := 11) hX hc12 lk_12 ⟨Nat.le_of_ble_eq_true rfl, Nat.le_of_ble_eq_true rfl⟩ (Nat.le_of_ble_eq_true rfl) d_To_keep_8 rfl ?_
  refine sx_icmp_lt (tgt := 67) (pc2 := 14) hX d_To_keep_11 (by decide) rfl (fun hc13 => ?_) (fun hc13 => ?_)
  · replace h := sx_t h hc13
    refine sx_aload_n (pc2 := 68) hX 0 d_To_keep_67 rfl rfl rfl ?_
    refine sx_dup (pc2 := 69) hX d_To_keep_68 rfl rfl ?_
    refine fg_To_37 (pc2 := 72) hX (hK 4 0 0 (by decide) (by decide)) d_To_keep_69 rfl ?_
    refine sx_iconst (v := 1) (pc2 := 73) hX d_To_keep_72 (by decide) rfl ?_
    refine sx_iadd (pc2 := 74) hX d_To_keep_73 rfl ?_
    refine fp_To_37 (pc2 := 77) hX (hK 4 0 0 (by decide) (by decide)) d_To_keep_74 rfl ?_
    refine sx_nm (fun σ14 e14 => ?_)
    replace h := h σ14 e14
    exact g_To_keep_b77 hX hK hE   x1 x2 x3 _ _ h
  · replace h := sx_f h hc13
    refine sx_aload_n (pc2 := 15) hX 0 d_To_keep_14 rfl rfl rfl ?_
    refine sx_iload_n (pc2 := 16) hX 1 d_To_keep_15 rfl rfl rfl ?_
    refine cl_To_75 (pc2 := 19) hX hK h  ⟨Nat.le_of_ble_eq_true rfl, Nat.le_of_ble_eq_true rfl⟩ (Nat.le_of_ble_eq_true rfl) d_To_keep_16 rfl (fun r15 σ15 τ15 h => ?_)
    refine fp_To_33 (pc2 := 22) hX (r15) (hK 4 0 0 (by decide) (by decide)) d_To_keep_19 rfl ?_
    refine sx_nm (fun σ16 e16 => ?_)
    replace h := h σ16 e16
    refine sx_aload_n (pc2 := 23) hX 0 d_To_keep_22 rfl rfl rfl ?_
    refine sx_iconst (v := 0) (pc2 := 24) hX d_To_keep_23 (by decide) rfl ?_
    refine fp_To_37 (pc2 := 27) hX (hK 4 0 0 (by decide) (by decide)) d_To_keep_24 rfl ?_
    refine sx_nm (fun σ17 e17 => ?_)
    replace h := h σ17 e17
    refine sx_aload_n (pc2 := 28) hX 0 d_To_keep_27 rfl rfl rfl ?_
    refine sx_dup (pc2 := 29) hX d_To_keep_28 rfl rfl ?_
    refine fg_To_40 (pc2 := 32) hX (hK 4 0 0 (by decide) (by decide)) d_To_keep_29 rfl ?_
    refine sx_iload_n (pc2 := 33) hX 1 d_To_keep_32 rfl rfl rfl ?_
    refine sx_if_ne (tgt := 40) (pc2 := 36) hX d_To_keep_33 (by decide) rfl (fun hc18 => ?_) (fun hc18 => ?_)
    · replace h := sx_f h hc18
      refine sx_iconst (v := 0) (pc2 := 41) hX d_To_keep_40 (by decide) rfl ?_
      exact g_To_keep_b41 hX hK hE   x1 x2 x3 (σ17 4 0 0 8) 0 _ _ h
    · replace h := sx_t h hc18
      refine sx_iconst (v := 1) (pc2 := 37) hX d_To_keep_36 (by decide) rfl ?_
      refine sx_goto (tgt := 41) hX d_To_keep_37 (by decide) ?_
      exact g_To_keep_b41 hX hK hE   x1 x2 x3 (σ17 4 0 0 8) 1 _ _ h
theorem cl_To_71 {X : sx_T} {K : sx_K} {cc : ByteArray} {nL : Nat} {ret : Option FieldType} {rm : Room} {l : Launch} {pc pc2 : Nat} {lv : List (Nat × Value)} {st : List Value} {σ : sx_M} {τ : sx_L} {x1 : Int32} {x2 : Int32} {x3 : Int32} {Q : sx_M → Prop} (hX : sx_C X K cc nL "SensorTree$Tokens" ret rm l) (hK : kx_C K) (h : wp_To_keep x1 x2 x3 σ Q)  (hR : rm_To_keep.frames + 1 ≤ rm.frames ∧ 8 + (4 + 11) + rm_To_keep.locals ≤ rm.locals) (hst : (st.map fun v => v.category).sum ≤ 8) (hd : decode cc pc = .ok (.invokevirtual 71, 3)) (hpc : pc + 3 = pc2) (kk : ∀ (σ2 : sx_M) (τ2 : sx_L), Q σ2 → sx_G X K nL pc2 lv (st) (sx_H K σ2 τ2)) : sx_G X K nL pc lv (.int x3 :: .int x2 :: .int x1 :: .ref (K.2.2.1 4 0 0) :: st) (sx_H K σ τ) :=
  sx_callVv (Q := fun σ _ => Q σ) (As := [.int x1, .int x2, .int x3]) hX (c_To_keep hK x1 x2 x3 σ τ Q  h) (hK 4 0 0 (by decide) (by decide)) rfl rfl lk_172 ls_5 hy_To_keep lk_170 lk_149 lk_171 ⟨rfl, rfl⟩ hR hst rfl hd hpc kk
def y_To_scan : MethodName := ⟨"SensorTree$Tokens", "scan", "(LSensorTree$Tape;)V"⟩
theorem hy_To_scan : y_To_scan.cls ≠ "java/lang/invoke/MethodHandle" ∧ y_To_scan.cls ≠ "java/lang/invoke/VarHandle" ∧ (parseMethodDescriptor y_To_scan.desc).map (fun d => d.parameters.length) = some 1 := by decide +kernel
theorem d_To_scan_0 : decode prog_10_method_2_code 0 = .ok (.aload_n 0, 1) := by decide +kernel
theorem d_To_scan_1 : decode prog_10_method_2_code 1 = .ok (.invokevirtual 46, 3) := by decide +kernel
theorem d_To_scan_4 : decode prog_10_method_2_code 4 = .ok (.iconst 0, 1) := by decide +kernel
theorem d_To_scan_5 : decode prog_10_method_2_code 5 = .ok (.istore_n 2, 1) := by decide +kernel
theorem d_To_scan_6 : decode prog_10_method_2_code 6 = .ok (.iconst 0, 1) := by decide +kernel
theorem d_To_scan_7 : decode prog_10_method_2_code 7 = .ok (.istore_n 3, 1) := by decide +kernel
theorem d_To_scan_8 : decode prog_10_method_2_code 8 = .ok (.iload_n 3, 1) := by decide +kernel
theorem d_To_scan_9 : decode prog_10_method_2_code 9 = .ok (.sipush 400, 3) := by decide +kernel
theorem d_To_scan_12 : decode prog_10_method_2_code 12 = .ok (.if_icmp .gt 80, 3) := by decide +kernel
theorem d_To_scan_15 : decode prog_10_method_2_code 15 = .ok (.aload_n 1, 1) := by decide +kernel
theorem d_To_scan_16 : decode prog_10_method_2_code 16 = .ok (.iload_n 2, 1) := by decide +kernel
theorem d_To_scan_17 : decode prog_10_method_2_code 17 = .ok (.invokevirtual 49, 3) := by decide +kernel
theorem d_To_scan_20 : decode prog_10_method_2_code 20 = .ok (.istore_n 2, 1) := by decide +kernel
theorem d_To_scan_21 : decode prog_10_method_2_code 21 = .ok (.aload_n 1, 1) := by decide +kernel
theorem d_To_scan_22 : decode prog_10_method_2_code 22 = .ok (.iload_n 2, 1) := by decide +kernel
theorem d_To_scan_23 : decode prog_10_method_2_code 23 = .ok (.invokevirtual 55, 3) := by decide +kernel
theorem d_To_scan_26 : decode prog_10_method_2_code 26 = .ok (.istore 4, 2) := by decide +kernel
theorem d_To_scan_28 : decode prog_10_method_2_code 28 = .ok (.aload_n 1, 1) := by decide +kernel
theorem d_To_scan_29 : decode prog_10_method_2_code 29 = .ok (.iload_n 2, 1) := by decide +kernel
theorem d_To_scan_30 : decode prog_10_method_2_code 30 = .ok (.iload 4, 2) := by decide +kernel
theorem d_To_scan_32 : decode prog_10_method_2_code 32 = .ok (.invokestatic 58, 3) := by decide +kernel
theorem d_To_scan_35 : decode prog_10_method_2_code 35 = .ok (.istore 5, 2) := by decide +kernel
theorem d_To_scan_37 : decode prog_10_method_2_code 37 = .ok (.iload 5, 2) := by decide +kernel
theorem d_To_scan_39 : decode prog_10_method_2_code 39 = .ok (.bipush 17, 2) := by decide +kernel
theorem d_To_scan_41 : decode prog_10_method_2_code 41 = .ok (.if_icmp .ne 18, 3) := by decide +kernel
theorem d_To_scan_44 : decode prog_10_method_2_code 44 = .ok (.aload_n 0, 1) := by decide +kernel
theorem d_To_scan_45 : decode prog_10_method_2_code 45 = .ok (.getfield 37, 3) := by decide +kernel
theorem d_To_scan_48 : decode prog_10_method_2_code 48 = .ok (.aload_n 0, 1) := by decide +kernel
theorem d_To_scan_49 : decode prog_10_method_2_code 49 = .ok (.getfield 33, 3) := by decide +kernel
theorem d_To_scan_52 : decode prog_10_method_2_code 52 = .ok (.invokevirtual 62, 3) := by decide +kernel
theorem d_To_scan_55 : decode prog_10_method_2_code 55 = .ok (.if_icmp .ne 4, 3) := by decide +kernel
theorem d_To_scan_58 : decode prog_10_method_2_code 58 = .ok (.return_, 1) := by decide +kernel
theorem d_To_scan_59 : decode prog_10_method_2_code 59 = .ok (.aload_n 0, 1) := by decide +kernel
theorem d_To_scan_60 : decode prog_10_method_2_code 60 = .ok (.iload 5, 2) := by decide +kernel
theorem d_To_scan_62 : decode prog_10_method_2_code 62 = .ok (.iload_n 2, 1) := by decide +kernel
theorem d_To_scan_63 : decode prog_10_method_2_code 63 = .ok (.invokevirtual 67, 3) := by decide +kernel
theorem d_To_scan_66 : decode prog_10_method_2_code 66 = .ok (.aload_n 0, 1) := by decide +kernel
theorem d_To_scan_67 : decode prog_10_method_2_code 67 = .ok (.getfield 25, 3) := by decide +kernel
theorem d_To_scan_70 : decode prog_10_method_2_code 70 = .ok (.ifCond .eq 4, 3) := by decide +kernel
theorem d_To_scan_73 : decode prog_10_method_2_code 73 = .ok (.return_, 1) := by decide +kernel
theorem d_To_scan_74 : decode prog_10_method_2_code 74 = .ok (.aload_n 0, 1) := by decide +kernel
theorem d_To_scan_75 : decode prog_10_method_2_code 75 = .ok (.iload 5, 2) := by decide +kernel
theorem d_To_scan_77 : decode prog_10_method_2_code 77 = .ok (.iload_n 2, 1) := by decide +kernel
theorem d_To_scan_78 : decode prog_10_method_2_code 78 = .ok (.iload 4, 2) := by decide +kernel
theorem d_To_scan_80 : decode prog_10_method_2_code 80 = .ok (.invokevirtual 71, 3) := by decide +kernel
theorem d_To_scan_83 : decode prog_10_method_2_code 83 = .ok (.iload 4, 2) := by decide +kernel
theorem d_To_scan_85 : decode prog_10_method_2_code 85 = .ok (.istore_n 2, 1) := by decide +kernel
theorem d_To_scan_86 : decode prog_10_method_2_code 86 = .ok (.iinc 3 1, 3) := by decide +kernel
theorem d_To_scan_89 : decode prog_10_method_2_code 89 = .ok (.goto (-81), 3) := by decide +kernel
theorem d_To_scan_92 : decode prog_10_method_2_code 92 = .ok (.return_, 1) := by decide +kernel
def wp_To_scan_b59  (k8 : Int32 → Int32 → sx_M → Prop) (Q : sx_M → Prop) (v2 : Int32) (v3 : Int32) (v4 : Int32) (v5 : Int32) (σ : sx_M) : Prop := wp_To_judge v5 v2 σ (fun σ1 => if σ1 4 0 0 4 = 0 then (wp_To_keep v5 v2 v4 σ1 (fun σ3 => k8 v4 (v3 + 1) σ3)) else (Q σ1))
def wp_To_scan_b8   (Q : sx_M → Prop) : Nat → Int32 → Int32 → sx_M → Prop
  | 0, _, _, _ => False
  | f + 1, v2, v3, σ => if 400 < v3 then (Q σ) else (wp_Ta_pastBlanks v2 σ (fun r5 σ5 => wp_Ta_runEnd r5 σ5 (fun r6 σ6 => wp_To_sortOf r5 r6 σ6 (fun r7 σ7 => if r7 = 17 then (vp_in (σ7 4 0 0 6) 6 ∧ (if σ7 4 0 0 7 = sx_tl (σ7 4 0 0 6) then (Q σ7) else (wp_To_scan_b59 (wp_To_scan_b8 Q f) Q r5 v3 r6 r7 σ7))) else (wp_To_scan_b59 (wp_To_scan_b8 Q f) Q r5 v3 r6 r7 σ7)))))
def wp_To_scan  (σ : sx_M) (Q : sx_M → Prop) : Prop := wp_To_clear σ (fun σ11 => ∃ f8, wp_To_scan_b8 Q f8 0 0 σ11)
abbrev rm_To_scan : Room := { frames := 7, cells := 0, slots := 0, locals := 156 }
set_option maxRecDepth 100000 in
set_option maxHeartbeats 4000000 in
theorem g_To_scan_b59 {l : Launch} {K : sx_K} {X : sx_T}  {k8 : Int32 → Int32 → sx_M → Prop} {Q : sx_M → Prop} (hX : sx_C X K prog_10_method_2_code 6 "SensorTree$Tokens" none rm_To_scan l) (hK : kx_C K) (hE : sx_E X K (sx_Qv K (fun σ _ => Q σ)))  (hk8 : ∀ (v2 : Int32) (v3 : Int32) (σ : sx_M) (τ : sx_L) , k8 v2 v3 σ → sx_G X K 6 8 [(0, .ref (K.2.2.1 4 0 0)), (1, .ref (K.2.2.1 1 0 0)), (2, .int v2), (3, .int v3)] [] (sx_H K σ τ)) (v2 : Int32) (v3 : Int32) (v4 : Int32) (v5 : Int32) (σ : sx_M) (τ : sx_L)  (h : wp_To_scan_b59 k8 Q  v2 v3 v4 v5 σ) : sx_G X K 6 59 [(0, .ref (K.2.2.1 4 0 0)), (1, .ref (K.2.2.1 1 0 0)), (2, .int v2), (3, .int v3), (4, .int v4), (5, .int v5)] [] (sx_H K σ τ) := by
  unfold wp_To_scan_b59 at h
  refine sx_aload_n (pc2 := 60) hX 0 d_To_scan_59 rfl rfl rfl ?_
  refine sx_iload (pc2 := 62) hX 5 d_To_scan_60 rfl rfl ?_
  refine sx_iload_n (pc2 := 63) hX 2 d_To_scan_62 rfl rfl rfl ?_
  refine cl_To_67 (pc2 := 66) hX hK h  ⟨Nat.le_of_ble_eq_true rfl, Nat.le_of_ble_eq_true rfl⟩ (Nat.le_of_ble_eq_true rfl) d_To_scan_63 rfl (fun σ1 τ1 h => ?_)
  refine sx_aload_n (pc2 := 67) hX 0 d_To_scan_66 rfl rfl rfl ?_
  refine fg_To_25 (pc2 := 70) hX (hK 4 0 0 (by decide) (by decide)) d_To_scan_67 rfl ?_
  refine sx_if_eq (tgt := 74) (pc2 := 73) hX d_To_scan_70 (by decide) rfl (fun hc2 => ?_) (fun hc2 => ?_)
  · replace h := sx_t h hc2
    refine sx_aload_n (pc2 := 75) hX 0 d_To_scan_74 rfl rfl rfl ?_
    refine sx_iload (pc2 := 77) hX 5 d_To_scan_75 rfl rfl ?_
    refine sx_iload_n (pc2 := 78) hX 2 d_To_scan_77 rfl rfl rfl ?_
    refine sx_iload (pc2 := 80) hX 4 d_To_scan_78 rfl rfl ?_
    refine cl_To_71 (pc2 := 83) hX hK h  ⟨Nat.le_of_ble_eq_true rfl, Nat.le_of_ble_eq_true rfl⟩ (Nat.le_of_ble_eq_true rfl) d_To_scan_80 rfl (fun σ3 τ3 h => ?_)
    refine sx_iload (pc2 := 85) hX 4 d_To_scan_83 rfl rfl ?_
    refine sx_istore_n (pc2 := 86) hX _ [(0, .ref (K.2.2.1 4 0 0)), (1, .ref (K.2.2.1 1 0 0)), (2, .int v4), (3, .int v3), (4, .int v4), (5, .int v5)] [1, 2, 0, 3, 4, 5] d_To_scan_85 rfl (by decide) rfl rfl rfl ?_
    refine sx_iinc (pc2 := 89) hX 3 _ [(0, .ref (K.2.2.1 4 0 0)), (1, .ref (K.2.2.1 1 0 0)), (2, .int v4), (3, .int (v3 + 1)), (4, .int v4), (5, .int v5)] [1, 2, 3, 0, 4, 5] d_To_scan_86 rfl (v3 + 1) rfl (by decide) rfl rfl rfl ?_
    refine sx_goto (tgt := 8) hX d_To_scan_89 (by decide) ?_
    refine sx_sub [(0, .ref (K.2.2.1 4 0 0)), (1, .ref (K.2.2.1 1 0 0)), (2, .int v4), (3, .int (v3 + 1))] [0, 1, 2, 3] rfl ?_
    exact hk8 v4 (v3 + 1) _ _ h
  · replace h := sx_f h hc2
    exact sx_vret hX hE h d_To_scan_73
set_option maxRecDepth 100000 in
set_option maxHeartbeats 4000000 in
theorem g_To_scan_b8 {l : Launch} {K : sx_K} {X : sx_T}   {Q : sx_M → Prop} (hX : sx_C X K prog_10_method_2_code 6 "SensorTree$Tokens" none rm_To_scan l) (hK : kx_C K) (hE : sx_E X K (sx_Qv K (fun σ _ => Q σ)))  : ∀ (f : Nat) (v2 : Int32) (v3 : Int32) (σ : sx_M) (τ : sx_L) , wp_To_scan_b8 Q f v2 v3 σ → sx_G X K 6 8 [(0, .ref (K.2.2.1 4 0 0)), (1, .ref (K.2.2.1 1 0 0)), (2, .int v2), (3, .int v3)] [] (sx_H K σ τ) := by
  intro f
  induction f with
  | zero => intro v2 v3 σ τ h; exact (show False from h).elim
  | succ f ih =>
    intro v2 v3 σ τ h
    rw [wp_To_scan_b8] at h
    refine sx_iload_n (pc2 := 9) hX 3 d_To_scan_8 rfl rfl rfl ?_
    refine sx_sipush (v := 400) (pc2 := 12) hX d_To_scan_9 (by decide) rfl ?_
    refine sx_icmp_gt (tgt := 92) (pc2 := 15) hX d_To_scan_12 (by decide) rfl (fun hc4 => ?_) (fun hc4 => ?_)
    · replace h := sx_t h hc4
      exact sx_vret hX hE h d_To_scan_92
    · replace h := sx_f h hc4
      refine sx_aload_n (pc2 := 16) hX 1 d_To_scan_15 rfl rfl rfl ?_
      refine sx_iload_n (pc2 := 17) hX 2 d_To_scan_16 rfl rfl rfl ?_
      refine cl_To_49 (pc2 := 20) hX hK h  ⟨Nat.le_of_ble_eq_true rfl, Nat.le_of_ble_eq_true rfl⟩ (Nat.le_of_ble_eq_true rfl) d_To_scan_17 rfl (fun r5 σ5 τ5 h => ?_)
      refine sx_istore_n (pc2 := 21) hX _ [(0, .ref (K.2.2.1 4 0 0)), (1, .ref (K.2.2.1 1 0 0)), (2, .int r5), (3, .int v3)] [1, 2, 0, 3] d_To_scan_20 rfl (by decide) rfl rfl rfl ?_
      refine sx_aload_n (pc2 := 22) hX 1 d_To_scan_21 rfl rfl rfl ?_
      refine sx_iload_n (pc2 := 23) hX 2 d_To_scan_22 rfl rfl rfl ?_
      refine cl_To_55 (pc2 := 26) hX hK h  ⟨Nat.le_of_ble_eq_true rfl, Nat.le_of_ble_eq_true rfl⟩ (Nat.le_of_ble_eq_true rfl) d_To_scan_23 rfl (fun r6 σ6 τ6 h => ?_)
      refine sx_istore (pc2 := 28) hX _ [(0, .ref (K.2.2.1 4 0 0)), (1, .ref (K.2.2.1 1 0 0)), (2, .int r5), (3, .int v3), (4, .int r6)] [1, 2, 3, 4, 0] d_To_scan_26 (by decide) rfl rfl rfl ?_
      refine sx_aload_n (pc2 := 29) hX 1 d_To_scan_28 rfl rfl rfl ?_
      refine sx_iload_n (pc2 := 30) hX 2 d_To_scan_29 rfl rfl rfl ?_
      refine sx_iload (pc2 := 32) hX 4 d_To_scan_30 rfl rfl ?_
      refine cl_To_58 (pc2 := 35) hX hK h  ⟨Nat.le_of_ble_eq_true rfl, Nat.le_of_ble_eq_true rfl⟩ (Nat.le_of_ble_eq_true rfl) d_To_scan_32 rfl (fun r7 σ7 τ7 h => ?_)
      refine sx_istore (pc2 := 37) hX _ [(0, .ref (K.2.2.1 4 0 0)), (1, .ref (K.2.2.1 1 0 0)), (2, .int r5), (3, .int v3), (4, .int r6), (5, .int r7)] [1, 2, 3, 4, 5, 0] d_To_scan_35 (by decide) rfl rfl rfl ?_
      refine sx_iload (pc2 := 39) hX 5 d_To_scan_37 rfl rfl ?_
      refine sx_bipush (v := 17) (pc2 := 41) hX d_To_scan_39 (by decide) rfl ?_
      refine sx_icmp_ne (tgt := 59) (pc2 := 44) hX d_To_scan_41 (by decide) rfl (fun hc8 => ?_) (fun hc8 => ?_)
      · replace h := sx_f h hc8
        exact g_To_scan_b59 hX hK hE  ih r5 v3 r6 r7 _ _ h
      · replace h := sx_t h hc8
        refine sx_aload_n (pc2 := 45) hX 0 d_To_scan_44 rfl rfl rfl ?_
        refine fg_To_37 (pc2 := 48) hX (hK 4 0 0 (by decide) (by decide)) d_To_scan_45 rfl ?_
        refine sx_aload_n (pc2 := 49) hX 0 d_To_scan_48 rfl rfl rfl ?_
        refine fg_To_33 (pc2 := 52) hX (hK 4 0 0 (by decide) (by decide)) d_To_scan_49 rfl ?_
        obtain ⟨hc9, h⟩ := h
        refine sx_slen (pc2 := 55) hX hc9 lk_12 ⟨Nat.le_of_ble_eq_true rfl, Nat.le_of_ble_eq_true rfl⟩ (Nat.le_of_ble_eq_true rfl) d_To_scan_52 rfl ?_
        refine sx_icmp_ne (tgt := 59) (pc2 := 58) hX d_To_scan_55 (by decide) rfl (fun hc10 => ?_) (fun hc10 => ?_)
        · replace h := sx_f h hc10
          exact g_To_scan_b59 hX hK hE  ih r5 v3 r6 r7 _ _ h
        · replace h := sx_t h hc10
          exact sx_vret hX hE h d_To_scan_58
set_option maxRecDepth 100000 in
set_option maxHeartbeats 4000000 in
theorem c_To_scan {l : Launch} {K : sx_K} (hK : kx_C K)  (σ : sx_M) (τ : sx_L) (Q : sx_M → Prop)  (h : wp_To_scan σ Q) : Met l y_To_scan (sx_wd y_To_scan prog_10_method_2_code 6 none) rm_To_scan (sx_Pc K [.ref (K.2.2.1 4 0 0), .ref (K.2.2.1 1 0 0)] σ τ) (sx_Qv K (fun σ _ => Q σ)) 0 0 (sx_A K) := by
  refine sx_met (by decide) (Nat.le_of_ble_eq_true rfl) (fun X hX hE => ?_)
  replace hX : sx_C X K prog_10_method_2_code 6 "SensorTree$Tokens" none rm_To_scan l := hX
  show sx_G X K 6 0 [(0, .ref (K.2.2.1 4 0 0)), (1, .ref (K.2.2.1 1 0 0))] [] (sx_H K σ τ)
  unfold wp_To_scan at h
  refine sx_aload_n (pc2 := 1) hX 0 d_To_scan_0 rfl rfl rfl ?_
  refine cl_To_46 (pc2 := 4) hX hK h  ⟨Nat.le_of_ble_eq_true rfl, Nat.le_of_ble_eq_true rfl⟩ (Nat.le_of_ble_eq_true rfl) d_To_scan_1 rfl (fun σ11 τ11 h => ?_)
  refine sx_iconst (v := 0) (pc2 := 5) hX d_To_scan_4 (by decide) rfl ?_
  refine sx_istore_n (pc2 := 6) hX _ [(0, .ref (K.2.2.1 4 0 0)), (1, .ref (K.2.2.1 1 0 0)), (2, .int 0)] [1, 2, 0] d_To_scan_5 rfl (by decide) rfl rfl rfl ?_
  refine sx_iconst (v := 0) (pc2 := 7) hX d_To_scan_6 (by decide) rfl ?_
  refine sx_istore_n (pc2 := 8) hX _ [(0, .ref (K.2.2.1 4 0 0)), (1, .ref (K.2.2.1 1 0 0)), (2, .int 0), (3, .int 0)] [1, 2, 3, 0] d_To_scan_7 rfl (by decide) rfl rfl rfl ?_
  obtain ⟨f8, h⟩ := h
  exact g_To_scan_b8 hX hK hE   f8 0 0 _ _ h
theorem cl_Re_36 {X : sx_T} {K : sx_K} {cc : ByteArray} {nL : Nat} {ret : Option FieldType} {rm : Room} {l : Launch} {pc pc2 : Nat} {lv : List (Nat × Value)} {st : List Value} {σ : sx_M} {τ : sx_L}  {Q : sx_M → Prop} (hX : sx_C X K cc nL "SensorTree$Reader" ret rm l) (hK : kx_C K) (h : wp_To_scan  σ Q)  (hR : rm_To_scan.frames + 1 ≤ rm.frames ∧ 8 + (6 + 11) + rm_To_scan.locals ≤ rm.locals) (hst : (st.map fun v => v.category).sum ≤ 8) (hd : decode cc pc = .ok (.invokevirtual 36, 3)) (hpc : pc + 3 = pc2) (kk : ∀ (σ2 : sx_M) (τ2 : sx_L), Q σ2 → sx_G X K nL pc2 lv (st) (sx_H K σ2 τ2)) : sx_G X K nL pc lv (.ref (K.2.2.1 1 0 0) :: .ref (K.2.2.1 4 0 0) :: st) (sx_H K σ τ) :=
  sx_callVv (Q := fun σ _ => Q σ) (As := [.ref (K.2.2.1 1 0 0)]) hX (c_To_scan hK  σ τ Q  h) (hK 4 0 0 (by decide) (by decide)) rfl rfl lk_228 lk_229 hy_To_scan lk_226 lk_149 lk_227 ⟨rfl, rfl⟩ hR hst rfl hd hpc kk
def y_Re_tellSize : MethodName := ⟨"SensorTree$Reader", "tellSize", "(I)I"⟩
theorem hy_Re_tellSize : y_Re_tellSize.cls ≠ "java/lang/invoke/MethodHandle" ∧ y_Re_tellSize.cls ≠ "java/lang/invoke/VarHandle" ∧ (parseMethodDescriptor y_Re_tellSize.desc).map (fun d => d.parameters.length) = some 1 := by decide +kernel
theorem d_Re_tellSize_0 : decode prog_8_method_3_code 0 = .ok (.iconst 1, 1) := by decide +kernel
theorem d_Re_tellSize_1 : decode prog_8_method_3_code 1 = .ok (.aload_n 0, 1) := by decide +kernel
theorem d_Re_tellSize_2 : decode prog_8_method_3_code 2 = .ok (.getfield 12, 3) := by decide +kernel
theorem d_Re_tellSize_5 : decode prog_8_method_3_code 5 = .ok (.getfield 58, 3) := by decide +kernel
theorem d_Re_tellSize_8 : decode prog_8_method_3_code 8 = .ok (.iload_n 1, 1) := by decide +kernel
theorem d_Re_tellSize_9 : decode prog_8_method_3_code 9 = .ok (.iaload, 1) := by decide +kernel
theorem d_Re_tellSize_10 : decode prog_8_method_3_code 10 = .ok (.invokestatic 61, 3) := by decide +kernel
theorem d_Re_tellSize_13 : decode prog_8_method_3_code 13 = .ok (.invokevirtual 65, 3) := by decide +kernel
theorem d_Re_tellSize_16 : decode prog_8_method_3_code 16 = .ok (.iadd, 1) := by decide +kernel
theorem d_Re_tellSize_17 : decode prog_8_method_3_code 17 = .ok (.ireturn, 1) := by decide +kernel
def wp_Re_tellSize (x1 : Int32) (σ : sx_M) (Q : Int32 → sx_M → Prop) : Prop := vp_in x1 400 ∧ (wp_To_shapeOf (σ 5 0 0 x1.toNatClampNeg) σ (fun r2 σ2 => vp_in r2 6 ∧ (Q (1 + (sx_tl r2)) σ2)))
abbrev rm_Re_tellSize : Room := { frames := 2, cells := 0, slots := 0, locals := 40 }
set_option maxRecDepth 100000 in
set_option maxHeartbeats 4000000 in
theorem c_Re_tellSize {l : Launch} {K : sx_K} (hK : kx_C K) (x1 : Int32) (σ : sx_M) (τ : sx_L) (Q : Int32 → sx_M → Prop)  (h : wp_Re_tellSize x1 σ Q) : Met l y_Re_tellSize (sx_wd y_Re_tellSize prog_8_method_3_code 2 (some .int)) rm_Re_tellSize (sx_Pc K [.ref (K.2.2.1 3 0 0), .int x1] σ τ) (sx_Qi K (fun r σ _ => Q r σ)) 0 0 (sx_A K) := by
  refine sx_met (by decide) (Nat.le_of_ble_eq_true rfl) (fun X hX hE => ?_)
  replace hX : sx_C X K prog_8_method_3_code 2 "SensorTree$Reader" (some .int) rm_Re_tellSize l := hX
  show sx_G X K 2 0 [(0, .ref (K.2.2.1 3 0 0)), (1, .int x1)] [] (sx_H K σ τ)
  unfold wp_Re_tellSize at h
  refine sx_iconst (v := 1) (pc2 := 1) hX d_Re_tellSize_0 (by decide) rfl ?_
  refine sx_aload_n (pc2 := 2) hX 0 d_Re_tellSize_1 rfl rfl rfl ?_
  refine fg_Re_12 (pc2 := 5) hX (hK 3 0 0 (by decide) (by decide)) d_Re_tellSize_2 rfl ?_
  refine fg_Re_58 (pc2 := 8) hX (hK 4 0 0 (by decide) (by decide)) d_Re_tellSize_5 rfl ?_
  refine sx_iload_n (pc2 := 9) hX 1 d_Re_tellSize_8 rfl rfl rfl ?_
  obtain ⟨hc1, h⟩ := h
  refine sx_iald (pc2 := 10) hX (hK 5 0 0 (by decide) (by decide)) rfl hc1 d_Re_tellSize_9 rfl ?_
  refine cl_Re_61 (pc2 := 13) hX hK h  ⟨Nat.le_of_ble_eq_true rfl, Nat.le_of_ble_eq_true rfl⟩ (Nat.le_of_ble_eq_true rfl) d_Re_tellSize_10 rfl (fun r2 σ2 τ2 h => ?_)
  obtain ⟨hc3, h⟩ := h
  refine sx_slen (pc2 := 16) hX hc3 lk_15 ⟨Nat.le_of_ble_eq_true rfl, Nat.le_of_ble_eq_true rfl⟩ (Nat.le_of_ble_eq_true rfl) d_Re_tellSize_13 rfl ?_
  refine sx_iadd (pc2 := 17) hX d_Re_tellSize_16 rfl ?_
  exact sx_iret hX hE h d_Re_tellSize_17
theorem cl_Re_54 {X : sx_T} {K : sx_K} {cc : ByteArray} {nL : Nat} {ret : Option FieldType} {rm : Room} {l : Launch} {pc pc2 : Nat} {lv : List (Nat × Value)} {st : List Value} {σ : sx_M} {τ : sx_L} {x1 : Int32} {Q : Int32 → sx_M → Prop} (hX : sx_C X K cc nL "SensorTree$Reader" ret rm l) (hK : kx_C K) (h : wp_Re_tellSize x1 σ Q)  (hR : rm_Re_tellSize.frames + 1 ≤ rm.frames ∧ 8 + (2 + 11) + rm_Re_tellSize.locals ≤ rm.locals) (hst : (st.map fun v => v.category).sum ≤ 8) (hd : decode cc pc = .ok (.invokevirtual 54, 3)) (hpc : pc + 3 = pc2) (kk : ∀ (r : Int32) (σ2 : sx_M) (τ2 : sx_L), Q r σ2 → sx_G X K nL pc2 lv (.int r :: st) (sx_H K σ2 τ2)) : sx_G X K nL pc lv (.int x1 :: .ref (K.2.2.1 3 0 0) :: st) (sx_H K σ τ) :=
  sx_callVi (Q := fun r σ _ => Q r σ) (As := [.int x1]) hX (c_Re_tellSize hK x1 σ τ Q  h) (hK 3 0 0 (by decide) (by decide)) rfl rfl lk_212 ls_7 hy_Re_tellSize lk_210 lk_192 lk_211 ⟨rfl, rfl⟩ hR hst rfl hd hpc kk
def y_Re_tell : MethodName := ⟨"SensorTree$Reader", "tell", "(LSensorTree$Tape;I)V"⟩
theorem hy_Re_tell : y_Re_tell.cls ≠ "java/lang/invoke/MethodHandle" ∧ y_Re_tell.cls ≠ "java/lang/invoke/VarHandle" ∧ (parseMethodDescriptor y_Re_tell.desc).map (fun d => d.parameters.length) = some 2 := by decide +kernel
theorem d_Re_tell_0 : decode prog_8_method_4_code 0 = .ok (.aload_n 0, 1) := by decide +kernel
theorem d_Re_tell_1 : decode prog_8_method_4_code 1 = .ok (.getfield 12, 3) := by decide +kernel
theorem d_Re_tell_4 : decode prog_8_method_4_code 4 = .ok (.getfield 58, 3) := by decide +kernel
theorem d_Re_tell_7 : decode prog_8_method_4_code 7 = .ok (.iload_n 2, 1) := by decide +kernel
theorem d_Re_tell_8 : decode prog_8_method_4_code 8 = .ok (.iaload, 1) := by decide +kernel
theorem d_Re_tell_9 : decode prog_8_method_4_code 9 = .ok (.istore_n 3, 1) := by decide +kernel
theorem d_Re_tell_10 : decode prog_8_method_4_code 10 = .ok (.iload_n 2, 1) := by decide +kernel
theorem d_Re_tell_11 : decode prog_8_method_4_code 11 = .ok (.aload_n 0, 1) := by decide +kernel
theorem d_Re_tell_12 : decode prog_8_method_4_code 12 = .ok (.iload_n 2, 1) := by decide +kernel
theorem d_Re_tell_13 : decode prog_8_method_4_code 13 = .ok (.invokevirtual 54, 3) := by decide +kernel
theorem d_Re_tell_16 : decode prog_8_method_4_code 16 = .ok (.iadd, 1) := by decide +kernel
theorem d_Re_tell_17 : decode prog_8_method_4_code 17 = .ok (.aload_n 0, 1) := by decide +kernel
theorem d_Re_tell_18 : decode prog_8_method_4_code 18 = .ok (.getfield 12, 3) := by decide +kernel
theorem d_Re_tell_21 : decode prog_8_method_4_code 21 = .ok (.getfield 47, 3) := by decide +kernel
theorem d_Re_tell_24 : decode prog_8_method_4_code 24 = .ok (.if_icmp .le 4, 3) := by decide +kernel
theorem d_Re_tell_27 : decode prog_8_method_4_code 27 = .ok (.return_, 1) := by decide +kernel
theorem d_Re_tell_28 : decode prog_8_method_4_code 28 = .ok (.iload_n 3, 1) := by decide +kernel
theorem d_Re_tell_29 : decode prog_8_method_4_code 29 = .ok (.ifCond .ne 14, 3) := by decide +kernel
theorem d_Re_tell_32 : decode prog_8_method_4_code 32 = .ok (.aload_n 0, 1) := by decide +kernel
theorem d_Re_tell_33 : decode prog_8_method_4_code 33 = .ok (.aload_n 1, 1) := by decide +kernel
theorem d_Re_tell_34 : decode prog_8_method_4_code 34 = .ok (.iload_n 2, 1) := by decide +kernel
theorem d_Re_tell_35 : decode prog_8_method_4_code 35 = .ok (.iconst 1, 1) := by decide +kernel
theorem d_Re_tell_36 : decode prog_8_method_4_code 36 = .ok (.iadd, 1) := by decide +kernel
theorem d_Re_tell_37 : decode prog_8_method_4_code 37 = .ok (.invokevirtual 71, 3) := by decide +kernel
theorem d_Re_tell_40 : decode prog_8_method_4_code 40 = .ok (.goto 83, 3) := by decide +kernel
theorem d_Re_tell_43 : decode prog_8_method_4_code 43 = .ok (.iload_n 3, 1) := by decide +kernel
theorem d_Re_tell_44 : decode prog_8_method_4_code 44 = .ok (.iconst 1, 1) := by decide +kernel
theorem d_Re_tell_45 : decode prog_8_method_4_code 45 = .ok (.if_icmp .ne 14, 3) := by decide +kernel
theorem d_Re_tell_48 : decode prog_8_method_4_code 48 = .ok (.aload_n 0, 1) := by decide +kernel
theorem d_Re_tell_49 : decode prog_8_method_4_code 49 = .ok (.aload_n 1, 1) := by decide +kernel
theorem d_Re_tell_50 : decode prog_8_method_4_code 50 = .ok (.iload_n 2, 1) := by decide +kernel
theorem d_Re_tell_51 : decode prog_8_method_4_code 51 = .ok (.iconst 1, 1) := by decide +kernel
theorem d_Re_tell_52 : decode prog_8_method_4_code 52 = .ok (.iadd, 1) := by decide +kernel
theorem d_Re_tell_53 : decode prog_8_method_4_code 53 = .ok (.invokevirtual 74, 3) := by decide +kernel
theorem d_Re_tell_56 : decode prog_8_method_4_code 56 = .ok (.goto 67, 3) := by decide +kernel
theorem d_Re_tell_59 : decode prog_8_method_4_code 59 = .ok (.iload_n 3, 1) := by decide +kernel
theorem d_Re_tell_60 : decode prog_8_method_4_code 60 = .ok (.bipush 11, 2) := by decide +kernel
theorem d_Re_tell_62 : decode prog_8_method_4_code 62 = .ok (.if_icmp .ne 34, 3) := by decide +kernel
theorem d_Re_tell_65 : decode prog_8_method_4_code 65 = .ok (.aload_n 0, 1) := by decide +kernel
theorem d_Re_tell_66 : decode prog_8_method_4_code 66 = .ok (.getfield 21, 3) := by decide +kernel
theorem d_Re_tell_69 : decode prog_8_method_4_code 69 = .ok (.aload_n 0, 1) := by decide +kernel
theorem d_Re_tell_70 : decode prog_8_method_4_code 70 = .ok (.getfield 12, 3) := by decide +kernel
theorem d_Re_tell_73 : decode prog_8_method_4_code 73 = .ok (.getfield 58, 3) := by decide +kernel
theorem d_Re_tell_76 : decode prog_8_method_4_code 76 = .ok (.iload_n 2, 1) := by decide +kernel
theorem d_Re_tell_77 : decode prog_8_method_4_code 77 = .ok (.iconst 1, 1) := by decide +kernel
theorem d_Re_tell_78 : decode prog_8_method_4_code 78 = .ok (.iadd, 1) := by decide +kernel
theorem d_Re_tell_79 : decode prog_8_method_4_code 79 = .ok (.iaload, 1) := by decide +kernel
theorem d_Re_tell_80 : decode prog_8_method_4_code 80 = .ok (.bipush 13, 2) := by decide +kernel
theorem d_Re_tell_82 : decode prog_8_method_4_code 82 = .ok (.if_icmp .ne 7, 3) := by decide +kernel
theorem d_Re_tell_85 : decode prog_8_method_4_code 85 = .ok (.iconst 1, 1) := by decide +kernel
theorem d_Re_tell_86 : decode prog_8_method_4_code 86 = .ok (.goto 4, 3) := by decide +kernel
theorem d_Re_tell_89 : decode prog_8_method_4_code 89 = .ok (.iconst 0, 1) := by decide +kernel
theorem d_Re_tell_90 : decode prog_8_method_4_code 90 = .ok (.putfield 77, 3) := by decide +kernel
theorem d_Re_tell_93 : decode prog_8_method_4_code 93 = .ok (.goto 30, 3) := by decide +kernel
theorem d_Re_tell_96 : decode prog_8_method_4_code 96 = .ok (.aload_n 0, 1) := by decide +kernel
theorem d_Re_tell_97 : decode prog_8_method_4_code 97 = .ok (.getfield 21, 3) := by decide +kernel
theorem d_Re_tell_100 : decode prog_8_method_4_code 100 = .ok (.iload_n 3, 1) := by decide +kernel
theorem d_Re_tell_101 : decode prog_8_method_4_code 101 = .ok (.aload_n 0, 1) := by decide +kernel
theorem d_Re_tell_102 : decode prog_8_method_4_code 102 = .ok (.aload_n 1, 1) := by decide +kernel
theorem d_Re_tell_103 : decode prog_8_method_4_code 103 = .ok (.iload_n 2, 1) := by decide +kernel
theorem d_Re_tell_104 : decode prog_8_method_4_code 104 = .ok (.iconst 1, 1) := by decide +kernel
theorem d_Re_tell_105 : decode prog_8_method_4_code 105 = .ok (.iadd, 1) := by decide +kernel
theorem d_Re_tell_106 : decode prog_8_method_4_code 106 = .ok (.invokevirtual 81, 3) := by decide +kernel
theorem d_Re_tell_109 : decode prog_8_method_4_code 109 = .ok (.invokevirtual 85, 3) := by decide +kernel
theorem d_Re_tell_112 : decode prog_8_method_4_code 112 = .ok (.ifCond .ne 11, 3) := by decide +kernel
theorem d_Re_tell_115 : decode prog_8_method_4_code 115 = .ok (.aload_n 0, 1) := by decide +kernel
theorem d_Re_tell_116 : decode prog_8_method_4_code 116 = .ok (.iconst 5, 1) := by decide +kernel
theorem d_Re_tell_117 : decode prog_8_method_4_code 117 = .ok (.iload_n 2, 1) := by decide +kernel
theorem d_Re_tell_118 : decode prog_8_method_4_code 118 = .ok (.iconst 1, 1) := by decide +kernel
theorem d_Re_tell_119 : decode prog_8_method_4_code 119 = .ok (.iadd, 1) := by decide +kernel
theorem d_Re_tell_120 : decode prog_8_method_4_code 120 = .ok (.invokevirtual 89, 3) := by decide +kernel
theorem d_Re_tell_123 : decode prog_8_method_4_code 123 = .ok (.return_, 1) := by decide +kernel
def wp_Re_tell_b123   (Q : sx_M → Prop)  (σ : sx_M) : Prop := Q σ
def wp_Re_tell_b90   (Q : sx_M → Prop) (w0n : Nat) (w1 : Int32) (σ : sx_M) : Prop := (w1 = 0 ∨ w1 = 1) ∧ (∀ σ2 : sx_M, σ2 = sx_u σ 8 w0n 0 7 w1 → (wp_Re_tell_b123 Q σ2))
def wp_Re_tell (x2 : Int32) (σ : sx_M) (Q : sx_M → Prop) : Prop := vp_in x2 400 ∧ (wp_Re_tellSize x2 σ (fun r4 σ4 => if x2 + r4 ≤ σ4 4 0 0 3 then (if σ 5 0 0 x2.toNatClampNeg = 0 then (wp_Re_tellPost (x2 + 1) σ4 (fun σ16 => wp_Re_tell_b123 Q σ16)) else (if σ 5 0 0 x2.toNatClampNeg = 1 then (wp_Re_tellLink (x2 + 1) σ4 (fun σ15 => wp_Re_tell_b123 Q σ15)) else (if σ 5 0 0 x2.toNatClampNeg = 11 then (vp_in (x2 + 1) 400 ∧ (if σ4 5 0 0 (x2 + 1).toNatClampNeg = 13 then (wp_Re_tell_b90 Q 1 1 σ4) else (wp_Re_tell_b90 Q 1 0 σ4))) else (wp_Re_intAt (x2 + 1) σ4 (fun r9 σ9 => wp_Pl_setNumber 1 (σ 5 0 0 x2.toNatClampNeg) r9 σ9 (fun r10 σ10 => if r10 = 0 then (wp_Re_blame (5 : Int32) (x2 + 1) σ10 (fun σ12 => wp_Re_tell_b123 Q σ12)) else (wp_Re_tell_b123 Q σ10))))))) else (Q σ4)))
abbrev rm_Re_tell : Room := { frames := 4, cells := 0, slots := 0, locals := 96 }
set_option maxRecDepth 100000 in
set_option maxHeartbeats 4000000 in
theorem g_Re_tell_b123 {l : Launch} {K : sx_K} {X : sx_T}   {Q : sx_M → Prop} (hX : sx_C X K prog_8_method_4_code 4 "SensorTree$Reader" none rm_Re_tell l) (hK : kx_C K) (hE : sx_E X K (sx_Qv K (fun σ _ => Q σ)))   (σ : sx_M) (τ : sx_L)  (h : wp_Re_tell_b123 Q  σ) : sx_G X K 4 123 [] [] (sx_H K σ τ) := by
  unfold wp_Re_tell_b123 at h
  exact sx_vret hX hE h d_Re_tell_123
set_option maxRecDepth 100000 in
set_option maxHeartbeats 4000000 in
theorem g_Re_tell_b90 {l : Launch} {K : sx_K} {X : sx_T}   {Q : sx_M → Prop} (hX : sx_C X K prog_8_method_4_code 4 "SensorTree$Reader" none rm_Re_tell l) (hK : kx_C K) (hE : sx_E X K (sx_Qv K (fun σ _ => Q σ)))  (w0n : Nat) (w1 : Int32) (σ : sx_M) (τ : sx_L) (hw0n : w0n < 2) (h : wp_Re_tell_b90 Q  w0n w1 σ) : sx_G X K 4 90 [] [.int w1, .ref (K.2.2.1 8 w0n 0)] (sx_H K σ τ) := by
  unfold wp_Re_tell_b90 at h
  obtain ⟨hc1, h⟩ := h
  refine fp_Re_77 (pc2 := 93) hX hc1 (hK 8 w0n 0 hw0n (by decide)) d_Re_tell_90 rfl ?_
  refine sx_nm (fun σ2 e2 => ?_)
  replace h := h σ2 e2
  refine sx_goto (tgt := 123) hX d_Re_tell_93 (by decide) ?_
  exact g_Re_tell_b123 hX hK hE   _ _ h
set_option maxRecDepth 100000 in
set_option maxHeartbeats 4000000 in
theorem c_Re_tell {l : Launch} {K : sx_K} (hK : kx_C K) (x2 : Int32) (σ : sx_M) (τ : sx_L) (Q : sx_M → Prop)  (h : wp_Re_tell x2 σ Q) : Met l y_Re_tell (sx_wd y_Re_tell prog_8_method_4_code 4 none) rm_Re_tell (sx_Pc K [.ref (K.2.2.1 3 0 0), .ref (K.2.2.1 1 0 0), .int x2] σ τ) (sx_Qv K (fun σ _ => Q σ)) 0 0 (sx_A K) := by
  refine sx_met (by decide) (Nat.le_of_ble_eq_true rfl) (fun X hX hE => ?_)
  replace hX : sx_C X K prog_8_method_4_code 4 "SensorTree$Reader" none rm_Re_tell l := hX
  show sx_G X K 4 0 [(0, .ref (K.2.2.1 3 0 0)), (1, .ref (K.2.2.1 1 0 0)), (2, .int x2)] [] (sx_H K σ τ)
  unfold wp_Re_tell at h
  refine sx_aload_n (pc2 := 1) hX 0 d_Re_tell_0 rfl rfl rfl ?_
  refine fg_Re_12 (pc2 := 4) hX (hK 3 0 0 (by decide) (by decide)) d_Re_tell_1 rfl ?_
  refine fg_Re_58 (pc2 := 7) hX (hK 4 0 0 (by decide) (by decide)) d_Re_tell_4 rfl ?_
  refine sx_iload_n (pc2 := 8) hX 2 d_Re_tell_7 rfl rfl rfl ?_
  obtain ⟨hc3, h⟩ := h
  refine sx_iald (pc2 := 9) hX (hK 5 0 0 (by decide) (by decide)) rfl hc3 d_Re_tell_8 rfl ?_
  refine sx_istore_n (pc2 := 10) hX _ [(0, .ref (K.2.2.1 3 0 0)), (1, .ref (K.2.2.1 1 0 0)), (2, .int x2), (3, .int (σ 5 0 0 x2.toNatClampNeg))] [1, 2, 3, 0] d_Re_tell_9 rfl (by decide) rfl rfl rfl ?_
  refine sx_iload_n (pc2 := 11) hX 2 d_Re_tell_10 rfl rfl rfl ?_
  refine sx_aload_n (pc2 := 12) hX 0 d_Re_tell_11 rfl rfl rfl ?_
  refine sx_iload_n (pc2 := 13) hX 2 d_Re_tell_12 rfl rfl rfl ?_
  refine cl_Re_54 (pc2 := 16) hX hK h  ⟨Nat.le_of_ble_eq_true rfl, Nat.le_of_ble_eq_true rfl⟩ (Nat.le_of_ble_eq_true rfl) d_Re_tell_13 rfl (fun r4 σ4 τ4 h => ?_)
  refine sx_iadd (pc2 := 17) hX d_Re_tell_16 rfl ?_
  refine sx_aload_n (pc2 := 18) hX 0 d_Re_tell_17 rfl rfl rfl ?_
  refine fg_Re_12 (pc2 := 21) hX (hK 3 0 0 (by decide) (by decide)) d_Re_tell_18 rfl ?_
  refine fg_Re_47 (pc2 := 24) hX (hK 4 0 0 (by decide) (by decide)) d_Re_tell_21 rfl ?_
  refine sx_icmp_le (tgt := 28) (pc2 := 27) hX d_Re_tell_24 (by decide) rfl (fun hc5 => ?_) (fun hc5 => ?_)
  · replace h := sx_t h hc5
    refine sx_iload_n (pc2 := 29) hX 3 d_Re_tell_28 rfl rfl rfl ?_
    refine sx_if_ne (tgt := 43) (pc2 := 32) hX d_Re_tell_29 (by decide) rfl (fun hc6 => ?_) (fun hc6 => ?_)
    · replace h := sx_f h hc6
      refine sx_iload_n (pc2 := 44) hX 3 d_Re_tell_43 rfl rfl rfl ?_
      refine sx_iconst (v := 1) (pc2 := 45) hX d_Re_tell_44 (by decide) rfl ?_
      refine sx_icmp_ne (tgt := 59) (pc2 := 48) hX d_Re_tell_45 (by decide) rfl (fun hc7 => ?_) (fun hc7 => ?_)
      · replace h := sx_f h hc7
        refine sx_iload_n (pc2 := 60) hX 3 d_Re_tell_59 rfl rfl rfl ?_
        refine sx_bipush (v := 11) (pc2 := 62) hX d_Re_tell_60 (by decide) rfl ?_
        refine sx_icmp_ne (tgt := 96) (pc2 := 65) hX d_Re_tell_62 (by decide) rfl (fun hc8 => ?_) (fun hc8 => ?_)
        · replace h := sx_f h hc8
          refine sx_aload_n (pc2 := 97) hX 0 d_Re_tell_96 rfl rfl rfl ?_
          refine fg_Re_21 (pc2 := 100) hX (hK 3 0 0 (by decide) (by decide)) d_Re_tell_97 rfl ?_
          refine sx_iload_n (pc2 := 101) hX 3 d_Re_tell_100 rfl rfl rfl ?_
          refine sx_aload_n (pc2 := 102) hX 0 d_Re_tell_101 rfl rfl rfl ?_
          refine sx_aload_n (pc2 := 103) hX 1 d_Re_tell_102 rfl rfl rfl ?_
          refine sx_iload_n (pc2 := 104) hX 2 d_Re_tell_103 rfl rfl rfl ?_
          refine sx_iconst (v := 1) (pc2 := 105) hX d_Re_tell_104 (by decide) rfl ?_
          refine sx_iadd (pc2 := 106) hX d_Re_tell_105 rfl ?_
          refine cl_Re_81 (pc2 := 109) hX hK h  ⟨Nat.le_of_ble_eq_true rfl, Nat.le_of_ble_eq_true rfl⟩ (Nat.le_of_ble_eq_true rfl) d_Re_tell_106 rfl (fun r9 σ9 τ9 h => ?_)
          refine cl_Re_85 (pc2 := 112) hX hK h (by decide) ⟨Nat.le_of_ble_eq_true rfl, Nat.le_of_ble_eq_true rfl⟩ (Nat.le_of_ble_eq_true rfl) d_Re_tell_109 rfl (fun r10 σ10 τ10 h => ?_)
          refine sx_if_ne (tgt := 123) (pc2 := 115) hX d_Re_tell_112 (by decide) rfl (fun hc11 => ?_) (fun hc11 => ?_)
          · replace h := sx_f h hc11
            refine sx_sub [] [] rfl ?_
            exact g_Re_tell_b123 hX hK hE   _ _ h
          · replace h := sx_t h hc11
            refine sx_aload_n (pc2 := 116) hX 0 d_Re_tell_115 rfl rfl rfl ?_
            refine sx_iconst (v := 5) (pc2 := 117) hX d_Re_tell_116 (by decide) rfl ?_
            refine sx_iload_n (pc2 := 118) hX 2 d_Re_tell_117 rfl rfl rfl ?_
            refine sx_iconst (v := 1) (pc2 := 119) hX d_Re_tell_118 (by decide) rfl ?_
            refine sx_iadd (pc2 := 120) hX d_Re_tell_119 rfl ?_
            refine cl_Re_89 (pc2 := 123) hX hK h  ⟨Nat.le_of_ble_eq_true rfl, Nat.le_of_ble_eq_true rfl⟩ (Nat.le_of_ble_eq_true rfl) d_Re_tell_120 rfl (fun σ12 τ12 h => ?_)
            refine sx_sub [] [] rfl ?_
            exact g_Re_tell_b123 hX hK hE   _ _ h
        · replace h := sx_t h hc8
          refine sx_aload_n (pc2 := 66) hX 0 d_Re_tell_65 rfl rfl rfl ?_
          refine fg_Re_21 (pc2 := 69) hX (hK 3 0 0 (by decide) (by decide)) d_Re_tell_66 rfl ?_
          refine sx_aload_n (pc2 := 70) hX 0 d_Re_tell_69 rfl rfl rfl ?_
          refine fg_Re_12 (pc2 := 73) hX (hK 3 0 0 (by decide) (by decide)) d_Re_tell_70 rfl ?_
          refine fg_Re_58 (pc2 := 76) hX (hK 4 0 0 (by decide) (by decide)) d_Re_tell_73 rfl ?_
          refine sx_iload_n (pc2 := 77) hX 2 d_Re_tell_76 rfl rfl rfl ?_
          refine sx_iconst (v := 1) (pc2 := 78) hX d_Re_tell_77 (by decide) rfl ?_
          refine sx_iadd (pc2 := 79) hX d_Re_tell_78 rfl ?_
          obtain ⟨hc13, h⟩ := h
          refine sx_iald (pc2 := 80) hX (hK 5 0 0 (by decide) (by decide)) rfl hc13 d_Re_tell_79 rfl ?_
          refine sx_bipush (v := 13) (pc2 := 82) hX d_Re_tell_80 (by decide) rfl ?_
          refine sx_icmp_ne (tgt := 89) (pc2 := 85) hX d_Re_tell_82 (by decide) rfl (fun hc14 => ?_) (fun hc14 => ?_)
          · replace h := sx_f h hc14
            refine sx_iconst (v := 0) (pc2 := 90) hX d_Re_tell_89 (by decide) rfl ?_
            refine sx_sub [] [] rfl ?_
            exact g_Re_tell_b90 hX hK hE   1 0 _ _ (by decide) h
          · replace h := sx_t h hc14
            refine sx_iconst (v := 1) (pc2 := 86) hX d_Re_tell_85 (by decide) rfl ?_
            refine sx_goto (tgt := 90) hX d_Re_tell_86 (by decide) ?_
            refine sx_sub [] [] rfl ?_
            exact g_Re_tell_b90 hX hK hE   1 1 _ _ (by decide) h
      · replace h := sx_t h hc7
        refine sx_aload_n (pc2 := 49) hX 0 d_Re_tell_48 rfl rfl rfl ?_
        refine sx_aload_n (pc2 := 50) hX 1 d_Re_tell_49 rfl rfl rfl ?_
        refine sx_iload_n (pc2 := 51) hX 2 d_Re_tell_50 rfl rfl rfl ?_
        refine sx_iconst (v := 1) (pc2 := 52) hX d_Re_tell_51 (by decide) rfl ?_
        refine sx_iadd (pc2 := 53) hX d_Re_tell_52 rfl ?_
        refine cl_Re_74 (pc2 := 56) hX hK h  ⟨Nat.le_of_ble_eq_true rfl, Nat.le_of_ble_eq_true rfl⟩ (Nat.le_of_ble_eq_true rfl) d_Re_tell_53 rfl (fun σ15 τ15 h => ?_)
        refine sx_goto (tgt := 123) hX d_Re_tell_56 (by decide) ?_
        refine sx_sub [] [] rfl ?_
        exact g_Re_tell_b123 hX hK hE   _ _ h
    · replace h := sx_t h hc6
      refine sx_aload_n (pc2 := 33) hX 0 d_Re_tell_32 rfl rfl rfl ?_
      refine sx_aload_n (pc2 := 34) hX 1 d_Re_tell_33 rfl rfl rfl ?_
      refine sx_iload_n (pc2 := 35) hX 2 d_Re_tell_34 rfl rfl rfl ?_
      refine sx_iconst (v := 1) (pc2 := 36) hX d_Re_tell_35 (by decide) rfl ?_
      refine sx_iadd (pc2 := 37) hX d_Re_tell_36 rfl ?_
      refine cl_Re_71 (pc2 := 40) hX hK h  ⟨Nat.le_of_ble_eq_true rfl, Nat.le_of_ble_eq_true rfl⟩ (Nat.le_of_ble_eq_true rfl) d_Re_tell_37 rfl (fun σ16 τ16 h => ?_)
      refine sx_goto (tgt := 123) hX d_Re_tell_40 (by decide) ?_
      refine sx_sub [] [] rfl ?_
      exact g_Re_tell_b123 hX hK hE   _ _ h
  · replace h := sx_f h hc5
    exact sx_vret hX hE h d_Re_tell_27
theorem cl_Re_50 {X : sx_T} {K : sx_K} {cc : ByteArray} {nL : Nat} {ret : Option FieldType} {rm : Room} {l : Launch} {pc pc2 : Nat} {lv : List (Nat × Value)} {st : List Value} {σ : sx_M} {τ : sx_L} {x2 : Int32} {Q : sx_M → Prop} (hX : sx_C X K cc nL "SensorTree$Reader" ret rm l) (hK : kx_C K) (h : wp_Re_tell x2 σ Q)  (hR : rm_Re_tell.frames + 1 ≤ rm.frames ∧ 8 + (4 + 11) + rm_Re_tell.locals ≤ rm.locals) (hst : (st.map fun v => v.category).sum ≤ 8) (hd : decode cc pc = .ok (.invokevirtual 50, 3)) (hpc : pc + 3 = pc2) (kk : ∀ (σ2 : sx_M) (τ2 : sx_L), Q σ2 → sx_G X K nL pc2 lv (st) (sx_H K σ2 τ2)) : sx_G X K nL pc lv (.int x2 :: .ref (K.2.2.1 1 0 0) :: .ref (K.2.2.1 3 0 0) :: st) (sx_H K σ τ) :=
  sx_callVv (Q := fun σ _ => Q σ) (As := [.ref (K.2.2.1 1 0 0), .int x2]) hX (c_Re_tell hK x2 σ τ Q  h) (hK 3 0 0 (by decide) (by decide)) rfl rfl lk_225 ls_6 hy_Re_tell lk_223 lk_192 lk_224 ⟨rfl, rfl⟩ hR hst rfl hd hpc kk
def y_Re_take : MethodName := ⟨"SensorTree$Reader", "take", "(LSensorTree$Tape;)V"⟩
theorem hy_Re_take : y_Re_take.cls ≠ "java/lang/invoke/MethodHandle" ∧ y_Re_take.cls ≠ "java/lang/invoke/VarHandle" ∧ (parseMethodDescriptor y_Re_take.desc).map (fun d => d.parameters.length) = some 1 := by decide +kernel
theorem d_Re_take_0 : decode prog_8_method_2_code 0 = .ok (.aload_n 0, 1) := by decide +kernel
theorem d_Re_take_1 : decode prog_8_method_2_code 1 = .ok (.getfield 12, 3) := by decide +kernel
theorem d_Re_take_4 : decode prog_8_method_2_code 4 = .ok (.aload_n 1, 1) := by decide +kernel
theorem d_Re_take_5 : decode prog_8_method_2_code 5 = .ok (.invokevirtual 36, 3) := by decide +kernel
theorem d_Re_take_8 : decode prog_8_method_2_code 8 = .ok (.aload_n 0, 1) := by decide +kernel
theorem d_Re_take_9 : decode prog_8_method_2_code 9 = .ok (.aload_n 0, 1) := by decide +kernel
theorem d_Re_take_10 : decode prog_8_method_2_code 10 = .ok (.getfield 12, 3) := by decide +kernel
theorem d_Re_take_13 : decode prog_8_method_2_code 13 = .ok (.getfield 40, 3) := by decide +kernel
theorem d_Re_take_16 : decode prog_8_method_2_code 16 = .ok (.putfield 29, 3) := by decide +kernel
theorem d_Re_take_19 : decode prog_8_method_2_code 19 = .ok (.aload_n 0, 1) := by decide +kernel
theorem d_Re_take_20 : decode prog_8_method_2_code 20 = .ok (.aload_n 0, 1) := by decide +kernel
theorem d_Re_take_21 : decode prog_8_method_2_code 21 = .ok (.getfield 12, 3) := by decide +kernel
theorem d_Re_take_24 : decode prog_8_method_2_code 24 = .ok (.getfield 41, 3) := by decide +kernel
theorem d_Re_take_27 : decode prog_8_method_2_code 27 = .ok (.putfield 33, 3) := by decide +kernel
theorem d_Re_take_30 : decode prog_8_method_2_code 30 = .ok (.aload_n 0, 1) := by decide +kernel
theorem d_Re_take_31 : decode prog_8_method_2_code 31 = .ok (.getfield 21, 3) := by decide +kernel
theorem d_Re_take_34 : decode prog_8_method_2_code 34 = .ok (.invokevirtual 44, 3) := by decide +kernel
theorem d_Re_take_37 : decode prog_8_method_2_code 37 = .ok (.iconst 0, 1) := by decide +kernel
theorem d_Re_take_38 : decode prog_8_method_2_code 38 = .ok (.istore_n 2, 1) := by decide +kernel
theorem d_Re_take_39 : decode prog_8_method_2_code 39 = .ok (.iload_n 2, 1) := by decide +kernel
theorem d_Re_take_40 : decode prog_8_method_2_code 40 = .ok (.aload_n 0, 1) := by decide +kernel
theorem d_Re_take_41 : decode prog_8_method_2_code 41 = .ok (.getfield 12, 3) := by decide +kernel
theorem d_Re_take_44 : decode prog_8_method_2_code 44 = .ok (.getfield 47, 3) := by decide +kernel
theorem d_Re_take_47 : decode prog_8_method_2_code 47 = .ok (.if_icmp .ge 27, 3) := by decide +kernel
theorem d_Re_take_50 : decode prog_8_method_2_code 50 = .ok (.aload_n 0, 1) := by decide +kernel
theorem d_Re_take_51 : decode prog_8_method_2_code 51 = .ok (.getfield 29, 3) := by decide +kernel
theorem d_Re_take_54 : decode prog_8_method_2_code 54 = .ok (.ifCond .ne 20, 3) := by decide +kernel
theorem d_Re_take_57 : decode prog_8_method_2_code 57 = .ok (.aload_n 0, 1) := by decide +kernel
theorem d_Re_take_58 : decode prog_8_method_2_code 58 = .ok (.aload_n 1, 1) := by decide +kernel
theorem d_Re_take_59 : decode prog_8_method_2_code 59 = .ok (.iload_n 2, 1) := by decide +kernel
theorem d_Re_take_60 : decode prog_8_method_2_code 60 = .ok (.invokevirtual 50, 3) := by decide +kernel
theorem d_Re_take_63 : decode prog_8_method_2_code 63 = .ok (.iload_n 2, 1) := by decide +kernel
theorem d_Re_take_64 : decode prog_8_method_2_code 64 = .ok (.aload_n 0, 1) := by decide +kernel
theorem d_Re_take_65 : decode prog_8_method_2_code 65 = .ok (.iload_n 2, 1) := by decide +kernel
theorem d_Re_take_66 : decode prog_8_method_2_code 66 = .ok (.invokevirtual 54, 3) := by decide +kernel
theorem d_Re_take_69 : decode prog_8_method_2_code 69 = .ok (.iadd, 1) := by decide +kernel
theorem d_Re_take_70 : decode prog_8_method_2_code 70 = .ok (.istore_n 2, 1) := by decide +kernel
theorem d_Re_take_71 : decode prog_8_method_2_code 71 = .ok (.goto (-32), 3) := by decide +kernel
theorem d_Re_take_74 : decode prog_8_method_2_code 74 = .ok (.return_, 1) := by decide +kernel
def wp_Re_take_b74   (Q : sx_M → Prop)  (σ : sx_M) : Prop := Q σ
def wp_Re_take_b39   (Q : sx_M → Prop) : Nat → Int32 → sx_M → Prop
  | 0, _, _ => False
  | f + 1, v2, σ => if σ 4 0 0 3 ≤ v2 then (wp_Re_take_b74 Q σ) else (if σ 3 0 0 3 = 0 then (wp_Re_tell v2 σ (fun σ3 => wp_Re_tellSize v2 σ3 (fun r4 σ4 => wp_Re_take_b39 Q f (v2 + r4) σ4))) else (wp_Re_take_b74 Q σ))
def wp_Re_take  (σ : sx_M) (Q : sx_M → Prop) : Prop := wp_To_scan σ (fun σ5 => ∀ σ6 : sx_M, σ6 = sx_u σ5 3 0 0 3 (σ5 4 0 0 4) → (∀ σ7 : sx_M, σ7 = sx_u σ6 3 0 0 4 (σ6 4 0 0 5) → (wp_Pl_clear 1 σ7 (fun σ8 => ∃ f39, wp_Re_take_b39 Q f39 0 σ8))))
abbrev rm_Re_take : Room := { frames := 8, cells := 0, slots := 0, locals := 181 }
set_option maxRecDepth 100000 in
set_option maxHeartbeats 4000000 in
theorem g_Re_take_b74 {l : Launch} {K : sx_K} {X : sx_T}   {Q : sx_M → Prop} (hX : sx_C X K prog_8_method_2_code 3 "SensorTree$Reader" none rm_Re_take l) (hK : kx_C K) (hE : sx_E X K (sx_Qv K (fun σ _ => Q σ)))   (σ : sx_M) (τ : sx_L)  (h : wp_Re_take_b74 Q  σ) : sx_G X K 3 74 [] [] (sx_H K σ τ) := by
  unfold wp_Re_take_b74 at h
  exact sx_vret hX hE h d_Re_take_74
set_option maxRecDepth 100000 in
set_option maxHeartbeats 4000000 in
theorem g_Re_take_b39 {l : Launch} {K : sx_K} {X : sx_T}   {Q : sx_M → Prop} (hX : sx_C X K prog_8_method_2_code 3 "SensorTree$Reader" none rm_Re_take l) (hK : kx_C K) (hE : sx_E X K (sx_Qv K (fun σ _ => Q σ)))  : ∀ (f : Nat) (v2 : Int32) (σ : sx_M) (τ : sx_L) , wp_Re_take_b39 Q f v2 σ → sx_G X K 3 39 [(0, .ref (K.2.2.1 3 0 0)), (1, .ref (K.2.2.1 1 0 0)), (2, .int v2)] [] (sx_H K σ τ) := by
  intro f
  induction f with
  | zero => intro v2 σ τ h; exact (show False from h).elim
  | succ f ih =>
    intro v2 σ τ h
    rw [wp_Re_take_b39] at h
    refine sx_iload_n (pc2 := 40) hX 2 d_Re_take_39 rfl rfl rfl ?_
    refine sx_aload_n (pc2 := 41) hX 0 d_Re_take_40 rfl rfl rfl ?_
    refine fg_Re_12 (pc2 := 44) hX (hK 3 0 0 (by decide) (by decide)) d_Re_take_41 rfl ?_
    refine fg_Re_47 (pc2 := 47) hX (hK 4 0 0 (by decide) (by decide)) d_Re_take_44 rfl ?_
    refine sx_icmp_ge (tgt := 74) (pc2 := 50) hX d_Re_take_47 (by decide) rfl (fun hc1 => ?_) (fun hc1 => ?_)
    · replace h := sx_t h hc1
      refine sx_sub [] [] rfl ?_
      exact g_Re_take_b74 hX hK hE   _ _ h
    · replace h := sx_f h hc1
      refine sx_aload_n (pc2 := 51) hX 0 d_Re_take_50 rfl rfl rfl ?_
      refine fg_Re_29 (pc2 := 54) hX (hK 3 0 0 (by decide) (by decide)) d_Re_take_51 rfl ?_
      refine sx_if_ne (tgt := 74) (pc2 := 57) hX d_Re_take_54 (by decide) rfl (fun hc2 => ?_) (fun hc2 => ?_)
      · replace h := sx_f h hc2
        refine sx_sub [] [] rfl ?_
        exact g_Re_take_b74 hX hK hE   _ _ h
      · replace h := sx_t h hc2
        refine sx_aload_n (pc2 := 58) hX 0 d_Re_take_57 rfl rfl rfl ?_
        refine sx_aload_n (pc2 := 59) hX 1 d_Re_take_58 rfl rfl rfl ?_
        refine sx_iload_n (pc2 := 60) hX 2 d_Re_take_59 rfl rfl rfl ?_
        refine cl_Re_50 (pc2 := 63) hX hK h  ⟨Nat.le_of_ble_eq_true rfl, Nat.le_of_ble_eq_true rfl⟩ (Nat.le_of_ble_eq_true rfl) d_Re_take_60 rfl (fun σ3 τ3 h => ?_)
        refine sx_iload_n (pc2 := 64) hX 2 d_Re_take_63 rfl rfl rfl ?_
        refine sx_aload_n (pc2 := 65) hX 0 d_Re_take_64 rfl rfl rfl ?_
        refine sx_iload_n (pc2 := 66) hX 2 d_Re_take_65 rfl rfl rfl ?_
        refine cl_Re_54 (pc2 := 69) hX hK h  ⟨Nat.le_of_ble_eq_true rfl, Nat.le_of_ble_eq_true rfl⟩ (Nat.le_of_ble_eq_true rfl) d_Re_take_66 rfl (fun r4 σ4 τ4 h => ?_)
        refine sx_iadd (pc2 := 70) hX d_Re_take_69 rfl ?_
        refine sx_istore_n (pc2 := 71) hX _ [(0, .ref (K.2.2.1 3 0 0)), (1, .ref (K.2.2.1 1 0 0)), (2, .int (v2 + r4))] [1, 2, 0] d_Re_take_70 rfl (by decide) rfl rfl rfl ?_
        refine sx_goto (tgt := 39) hX d_Re_take_71 (by decide) ?_
        exact ih (v2 + r4) _ _ h
set_option maxRecDepth 100000 in
set_option maxHeartbeats 4000000 in
theorem c_Re_take {l : Launch} {K : sx_K} (hK : kx_C K)  (σ : sx_M) (τ : sx_L) (Q : sx_M → Prop)  (h : wp_Re_take σ Q) : Met l y_Re_take (sx_wd y_Re_take prog_8_method_2_code 3 none) rm_Re_take (sx_Pc K [.ref (K.2.2.1 3 0 0), .ref (K.2.2.1 1 0 0)] σ τ) (sx_Qv K (fun σ _ => Q σ)) 0 0 (sx_A K) := by
  refine sx_met (by decide) (Nat.le_of_ble_eq_true rfl) (fun X hX hE => ?_)
  replace hX : sx_C X K prog_8_method_2_code 3 "SensorTree$Reader" none rm_Re_take l := hX
  show sx_G X K 3 0 [(0, .ref (K.2.2.1 3 0 0)), (1, .ref (K.2.2.1 1 0 0))] [] (sx_H K σ τ)
  unfold wp_Re_take at h
  refine sx_aload_n (pc2 := 1) hX 0 d_Re_take_0 rfl rfl rfl ?_
  refine fg_Re_12 (pc2 := 4) hX (hK 3 0 0 (by decide) (by decide)) d_Re_take_1 rfl ?_
  refine sx_aload_n (pc2 := 5) hX 1 d_Re_take_4 rfl rfl rfl ?_
  refine cl_Re_36 (pc2 := 8) hX hK h  ⟨Nat.le_of_ble_eq_true rfl, Nat.le_of_ble_eq_true rfl⟩ (Nat.le_of_ble_eq_true rfl) d_Re_take_5 rfl (fun σ5 τ5 h => ?_)
  refine sx_aload_n (pc2 := 9) hX 0 d_Re_take_8 rfl rfl rfl ?_
  refine sx_aload_n (pc2 := 10) hX 0 d_Re_take_9 rfl rfl rfl ?_
  refine fg_Re_12 (pc2 := 13) hX (hK 3 0 0 (by decide) (by decide)) d_Re_take_10 rfl ?_
  refine fg_Re_40 (pc2 := 16) hX (hK 4 0 0 (by decide) (by decide)) d_Re_take_13 rfl ?_
  refine fp_Re_29 (pc2 := 19) hX (hK 3 0 0 (by decide) (by decide)) d_Re_take_16 rfl ?_
  refine sx_nm (fun σ6 e6 => ?_)
  replace h := h σ6 e6
  refine sx_aload_n (pc2 := 20) hX 0 d_Re_take_19 rfl rfl rfl ?_
  refine sx_aload_n (pc2 := 21) hX 0 d_Re_take_20 rfl rfl rfl ?_
  refine fg_Re_12 (pc2 := 24) hX (hK 3 0 0 (by decide) (by decide)) d_Re_take_21 rfl ?_
  refine fg_Re_41 (pc2 := 27) hX (hK 4 0 0 (by decide) (by decide)) d_Re_take_24 rfl ?_
  refine fp_Re_33 (pc2 := 30) hX (hK 3 0 0 (by decide) (by decide)) d_Re_take_27 rfl ?_
  refine sx_nm (fun σ7 e7 => ?_)
  replace h := h σ7 e7
  refine sx_aload_n (pc2 := 31) hX 0 d_Re_take_30 rfl rfl rfl ?_
  refine fg_Re_21 (pc2 := 34) hX (hK 3 0 0 (by decide) (by decide)) d_Re_take_31 rfl ?_
  refine cl_Re_44 (pc2 := 37) hX hK h (by decide) ⟨Nat.le_of_ble_eq_true rfl, Nat.le_of_ble_eq_true rfl⟩ (Nat.le_of_ble_eq_true rfl) d_Re_take_34 rfl (fun σ8 τ8 h => ?_)
  refine sx_iconst (v := 0) (pc2 := 38) hX d_Re_take_37 (by decide) rfl ?_
  refine sx_istore_n (pc2 := 39) hX _ [(0, .ref (K.2.2.1 3 0 0)), (1, .ref (K.2.2.1 1 0 0)), (2, .int 0)] [1, 2, 0] d_Re_take_38 rfl (by decide) rfl rfl rfl ?_
  obtain ⟨f39, h⟩ := h
  exact g_Re_take_b39 hX hK hE   f39 0 _ _ h
theorem cl_St_96 {X : sx_T} {K : sx_K} {cc : ByteArray} {nL : Nat} {ret : Option FieldType} {rm : Room} {l : Launch} {pc pc2 : Nat} {lv : List (Nat × Value)} {st : List Value} {σ : sx_M} {τ : sx_L}  {Q : sx_M → Prop} (hX : sx_C X K cc nL "SensorTree" ret rm l) (hK : kx_C K) (h : wp_Re_take  σ Q)  (hR : rm_Re_take.frames + 1 ≤ rm.frames ∧ 8 + (3 + 11) + rm_Re_take.locals ≤ rm.locals) (hst : (st.map fun v => v.category).sum ≤ 8) (hd : decode cc pc = .ok (.invokevirtual 96, 3)) (hpc : pc + 3 = pc2) (kk : ∀ (σ2 : sx_M) (τ2 : sx_L), Q σ2 → sx_G X K nL pc2 lv (st) (sx_H K σ2 τ2)) : sx_G X K nL pc lv (.ref (K.2.2.1 1 0 0) :: .ref (K.2.2.1 3 0 0) :: st) (sx_H K σ τ) :=
  sx_callVv (Q := fun σ _ => Q σ) (As := [.ref (K.2.2.1 1 0 0)]) hX (c_Re_take hK  σ τ Q  h) (hK 3 0 0 (by decide) (by decide)) rfl rfl lk_250 lk_251 hy_Re_take lk_248 lk_192 lk_249 ⟨rfl, rfl⟩ hR hst rfl hd hpc kk
def y_St_read : MethodName := ⟨"SensorTree", "read", "()I"⟩
theorem hy_St_read : y_St_read.cls ≠ "java/lang/invoke/MethodHandle" ∧ y_St_read.cls ≠ "java/lang/invoke/VarHandle" ∧ (parseMethodDescriptor y_St_read.desc).map (fun d => d.parameters.length) = some 0 := by decide +kernel
theorem d_St_read_0 : decode prog_1_method_4_code 0 = .ok (.aload_n 0, 1) := by decide +kernel
theorem d_St_read_1 : decode prog_1_method_4_code 1 = .ok (.getfield 19, 3) := by decide +kernel
theorem d_St_read_4 : decode prog_1_method_4_code 4 = .ok (.aload_n 0, 1) := by decide +kernel
theorem d_St_read_5 : decode prog_1_method_4_code 5 = .ok (.getfield 10, 3) := by decide +kernel
theorem d_St_read_8 : decode prog_1_method_4_code 8 = .ok (.invokevirtual 96, 3) := by decide +kernel
theorem d_St_read_11 : decode prog_1_method_4_code 11 = .ok (.aload_n 0, 1) := by decide +kernel
theorem d_St_read_12 : decode prog_1_method_4_code 12 = .ok (.getfield 10, 3) := by decide +kernel
theorem d_St_read_15 : decode prog_1_method_4_code 15 = .ok (.iconst 0, 1) := by decide +kernel
theorem d_St_read_16 : decode prog_1_method_4_code 16 = .ok (.putfield 89, 3) := by decide +kernel
theorem d_St_read_19 : decode prog_1_method_4_code 19 = .ok (.aload_n 0, 1) := by decide +kernel
theorem d_St_read_20 : decode prog_1_method_4_code 20 = .ok (.getfield 19, 3) := by decide +kernel
theorem d_St_read_23 : decode prog_1_method_4_code 23 = .ok (.getfield 100, 3) := by decide +kernel
theorem d_St_read_26 : decode prog_1_method_4_code 26 = .ok (.ifCond .ne 48, 3) := by decide +kernel
theorem d_St_read_29 : decode prog_1_method_4_code 29 = .ok (.aload_n 0, 1) := by decide +kernel
theorem d_St_read_30 : decode prog_1_method_4_code 30 = .ok (.getfield 26, 3) := by decide +kernel
theorem d_St_read_33 : decode prog_1_method_4_code 33 = .ok (.aload_n 0, 1) := by decide +kernel
theorem d_St_read_34 : decode prog_1_method_4_code 34 = .ok (.getfield 19, 3) := by decide +kernel
theorem d_St_read_37 : decode prog_1_method_4_code 37 = .ok (.getfield 103, 3) := by decide +kernel
theorem d_St_read_40 : decode prog_1_method_4_code 40 = .ok (.invokevirtual 106, 3) := by decide +kernel
theorem d_St_read_43 : decode prog_1_method_4_code 43 = .ok (.aload_n 0, 1) := by decide +kernel
theorem d_St_read_44 : decode prog_1_method_4_code 44 = .ok (.getfield 47, 3) := by decide +kernel
theorem d_St_read_47 : decode prog_1_method_4_code 47 = .ok (.invokevirtual 86, 3) := by decide +kernel
theorem d_St_read_50 : decode prog_1_method_4_code 50 = .ok (.aload_n 0, 1) := by decide +kernel
theorem d_St_read_51 : decode prog_1_method_4_code 51 = .ok (.invokevirtual 109, 3) := by decide +kernel
theorem d_St_read_54 : decode prog_1_method_4_code 54 = .ok (.iconst 0, 1) := by decide +kernel
theorem d_St_read_55 : decode prog_1_method_4_code 55 = .ok (.istore_n 1, 1) := by decide +kernel
theorem d_St_read_56 : decode prog_1_method_4_code 56 = .ok (.iload_n 1, 1) := by decide +kernel
theorem d_St_read_57 : decode prog_1_method_4_code 57 = .ok (.iconst 3, 1) := by decide +kernel
theorem d_St_read_58 : decode prog_1_method_4_code 58 = .ok (.if_icmp .ge 16, 3) := by decide +kernel
theorem d_St_read_61 : decode prog_1_method_4_code 61 = .ok (.aload_n 0, 1) := by decide +kernel
theorem d_St_read_62 : decode prog_1_method_4_code 62 = .ok (.getfield 82, 3) := by decide +kernel
theorem d_St_read_65 : decode prog_1_method_4_code 65 = .ok (.iload_n 1, 1) := by decide +kernel
theorem d_St_read_66 : decode prog_1_method_4_code 66 = .ok (.iconst 0, 1) := by decide +kernel
theorem d_St_read_67 : decode prog_1_method_4_code 67 = .ok (.bastore, 1) := by decide +kernel
theorem d_St_read_68 : decode prog_1_method_4_code 68 = .ok (.iinc 1 1, 3) := by decide +kernel
theorem d_St_read_71 : decode prog_1_method_4_code 71 = .ok (.goto (-15), 3) := by decide +kernel
theorem d_St_read_74 : decode prog_1_method_4_code 74 = .ok (.aload_n 0, 1) := by decide +kernel
theorem d_St_read_75 : decode prog_1_method_4_code 75 = .ok (.getfield 19, 3) := by decide +kernel
theorem d_St_read_78 : decode prog_1_method_4_code 78 = .ok (.getfield 100, 3) := by decide +kernel
theorem d_St_read_81 : decode prog_1_method_4_code 81 = .ok (.ireturn, 1) := by decide +kernel
def wp_St_read_b74   (Q : Int32 → sx_M → Prop)  (σ : sx_M) : Prop := Q (σ 3 0 0 3) σ
def wp_St_read_b56   (Q : Int32 → sx_M → Prop) : Nat → Int32 → sx_M → Prop
  | 0, _, _ => False
  | f + 1, v1, σ => if 3 ≤ v1 then (wp_St_read_b74 Q σ) else (vp_in v1 3 ∧ (∀ σ3 : sx_M, σ3 = sx_u σ 39 0 0 v1.toNatClampNeg (vp_nar .boolean 0) → (wp_St_read_b56 Q f (v1 + 1) σ3)))
def wp_St_read  (σ : sx_M) (Q : Int32 → sx_M → Prop) : Prop := wp_Re_take σ (fun σ4 => ∀ σ5 : sx_M, σ5 = sx_u σ4 1 0 0 1 0 → (if σ5 3 0 0 3 = 0 then (wp_Pl_copyFrom 0 1 σ5 (fun σ7 => wp_En_beginAll 0 σ7 (fun σ8 => wp_St_forgetPast σ8 (fun σ9 => ∃ f56, wp_St_read_b56 Q f56 0 σ9)))) else (wp_St_read_b74 Q σ5)))
abbrev rm_St_read : Room := { frames := 9, cells := 0, slots := 0, locals := 203 }
set_option maxRecDepth 100000 in
set_option maxHeartbeats 4000000 in
theorem g_St_read_b74 {l : Launch} {K : sx_K} {X : sx_T}   {Q : Int32 → sx_M → Prop} (hX : sx_C X K prog_1_method_4_code 2 "SensorTree" (some .int) rm_St_read l) (hK : kx_C K) (hE : sx_E X K (sx_Qi K (fun r σ _ => Q r σ)))   (σ : sx_M) (τ : sx_L)  (h : wp_St_read_b74 Q  σ) : sx_G X K 2 74 [(0, .ref (K.2.2.1 0 0 0))] [] (sx_H K σ τ) := by
  unfold wp_St_read_b74 at h
  refine sx_aload_n (pc2 := 75) hX 0 d_St_read_74 rfl rfl rfl ?_
  refine fg_St_19 (pc2 := 78) hX (hK 0 0 0 (by decide) (by decide)) d_St_read_75 rfl ?_
  refine fg_St_100 (pc2 := 81) hX (hK 3 0 0 (by decide) (by decide)) d_St_read_78 rfl ?_
  exact sx_iret hX hE h d_St_read_81
set_option maxRecDepth 100000 in
set_option maxHeartbeats 4000000 in
theorem g_St_read_b56 {l : Launch} {K : sx_K} {X : sx_T}   {Q : Int32 → sx_M → Prop} (hX : sx_C X K prog_1_method_4_code 2 "SensorTree" (some .int) rm_St_read l) (hK : kx_C K) (hE : sx_E X K (sx_Qi K (fun r σ _ => Q r σ)))  : ∀ (f : Nat) (v1 : Int32) (σ : sx_M) (τ : sx_L) , wp_St_read_b56 Q f v1 σ → sx_G X K 2 56 [(0, .ref (K.2.2.1 0 0 0)), (1, .int v1)] [] (sx_H K σ τ) := by
  intro f
  induction f with
  | zero => intro v1 σ τ h; exact (show False from h).elim
  | succ f ih =>
    intro v1 σ τ h
    rw [wp_St_read_b56] at h
    refine sx_iload_n (pc2 := 57) hX 1 d_St_read_56 rfl rfl rfl ?_
    refine sx_iconst (v := 3) (pc2 := 58) hX d_St_read_57 (by decide) rfl ?_
    refine sx_icmp_ge (tgt := 74) (pc2 := 61) hX d_St_read_58 (by decide) rfl (fun hc1 => ?_) (fun hc1 => ?_)
    · replace h := sx_t h hc1
      refine sx_sub [(0, .ref (K.2.2.1 0 0 0))] [0] rfl ?_
      exact g_St_read_b74 hX hK hE   _ _ h
    · replace h := sx_f h hc1
      refine sx_aload_n (pc2 := 62) hX 0 d_St_read_61 rfl rfl rfl ?_
      refine fg_St_82 (pc2 := 65) hX (hK 0 0 0 (by decide) (by decide)) d_St_read_62 rfl ?_
      refine sx_iload_n (pc2 := 66) hX 1 d_St_read_65 rfl rfl rfl ?_
      refine sx_iconst (v := 0) (pc2 := 67) hX d_St_read_66 (by decide) rfl ?_
      obtain ⟨hc2, h⟩ := h
      refine sx_zast (pc2 := 68) hX (hK 39 0 0 (by decide) (by decide)) (fun _ => rfl) hc2 d_St_read_67 rfl ?_
      refine sx_nm (fun σ3 e3 => ?_)
      replace h := h σ3 e3
      refine sx_iinc (pc2 := 71) hX 1 _ [(0, .ref (K.2.2.1 0 0 0)), (1, .int (v1 + 1))] [1, 0] d_St_read_68 rfl (v1 + 1) rfl (by decide) rfl rfl rfl ?_
      refine sx_goto (tgt := 56) hX d_St_read_71 (by decide) ?_
      exact ih (v1 + 1) _ _ h
set_option maxRecDepth 100000 in
set_option maxHeartbeats 4000000 in
theorem c_St_read {l : Launch} {K : sx_K} (hK : kx_C K)  (σ : sx_M) (τ : sx_L) (Q : Int32 → sx_M → Prop)  (h : wp_St_read σ Q) : Met l y_St_read (sx_wd y_St_read prog_1_method_4_code 2 (some .int)) rm_St_read (sx_Pc K [.ref (K.2.2.1 0 0 0)] σ τ) (sx_Qi K (fun r σ _ => Q r σ)) 0 0 (sx_A K) := by
  refine sx_met (by decide) (Nat.le_of_ble_eq_true rfl) (fun X hX hE => ?_)
  replace hX : sx_C X K prog_1_method_4_code 2 "SensorTree" (some .int) rm_St_read l := hX
  show sx_G X K 2 0 [(0, .ref (K.2.2.1 0 0 0))] [] (sx_H K σ τ)
  unfold wp_St_read at h
  refine sx_aload_n (pc2 := 1) hX 0 d_St_read_0 rfl rfl rfl ?_
  refine fg_St_19 (pc2 := 4) hX (hK 0 0 0 (by decide) (by decide)) d_St_read_1 rfl ?_
  refine sx_aload_n (pc2 := 5) hX 0 d_St_read_4 rfl rfl rfl ?_
  refine fg_St_10 (pc2 := 8) hX (hK 0 0 0 (by decide) (by decide)) d_St_read_5 rfl ?_
  refine cl_St_96 (pc2 := 11) hX hK h  ⟨Nat.le_of_ble_eq_true rfl, Nat.le_of_ble_eq_true rfl⟩ (Nat.le_of_ble_eq_true rfl) d_St_read_8 rfl (fun σ4 τ4 h => ?_)
  refine sx_aload_n (pc2 := 12) hX 0 d_St_read_11 rfl rfl rfl ?_
  refine fg_St_10 (pc2 := 15) hX (hK 0 0 0 (by decide) (by decide)) d_St_read_12 rfl ?_
  refine sx_iconst (v := 0) (pc2 := 16) hX d_St_read_15 (by decide) rfl ?_
  refine fp_St_89 (pc2 := 19) hX (hK 1 0 0 (by decide) (by decide)) d_St_read_16 rfl ?_
  refine sx_nm (fun σ5 e5 => ?_)
  replace h := h σ5 e5
  refine sx_aload_n (pc2 := 20) hX 0 d_St_read_19 rfl rfl rfl ?_
  refine fg_St_19 (pc2 := 23) hX (hK 0 0 0 (by decide) (by decide)) d_St_read_20 rfl ?_
  refine fg_St_100 (pc2 := 26) hX (hK 3 0 0 (by decide) (by decide)) d_St_read_23 rfl ?_
  refine sx_if_ne (tgt := 74) (pc2 := 29) hX d_St_read_26 (by decide) rfl (fun hc6 => ?_) (fun hc6 => ?_)
  · replace h := sx_f h hc6
    exact g_St_read_b74 hX hK hE   _ _ h
  · replace h := sx_t h hc6
    refine sx_aload_n (pc2 := 30) hX 0 d_St_read_29 rfl rfl rfl ?_
    refine fg_St_26 (pc2 := 33) hX (hK 0 0 0 (by decide) (by decide)) d_St_read_30 rfl ?_
    refine sx_aload_n (pc2 := 34) hX 0 d_St_read_33 rfl rfl rfl ?_
    refine fg_St_19 (pc2 := 37) hX (hK 0 0 0 (by decide) (by decide)) d_St_read_34 rfl ?_
    refine fg_St_103 (pc2 := 40) hX (hK 3 0 0 (by decide) (by decide)) d_St_read_37 rfl ?_
    refine cl_St_106 (pc2 := 43) hX hK h (by decide) (by decide) ⟨Nat.le_of_ble_eq_true rfl, Nat.le_of_ble_eq_true rfl⟩ (Nat.le_of_ble_eq_true rfl) d_St_read_40 rfl (fun σ7 τ7 h => ?_)
    refine sx_aload_n (pc2 := 44) hX 0 d_St_read_43 rfl rfl rfl ?_
    refine fg_St_47 (pc2 := 47) hX (hK 0 0 0 (by decide) (by decide)) d_St_read_44 rfl ?_
    refine cl_St_86 (pc2 := 50) hX hK h (by decide) ⟨Nat.le_of_ble_eq_true rfl, Nat.le_of_ble_eq_true rfl⟩ (Nat.le_of_ble_eq_true rfl) d_St_read_47 rfl (fun σ8 τ8 h => ?_)
    refine sx_aload_n (pc2 := 51) hX 0 d_St_read_50 rfl rfl rfl ?_
    refine cl_St_109 (pc2 := 54) hX hK h  ⟨Nat.le_of_ble_eq_true rfl, Nat.le_of_ble_eq_true rfl⟩ (Nat.le_of_ble_eq_true rfl) d_St_read_51 rfl (fun σ9 τ9 h => ?_)
    refine sx_iconst (v := 0) (pc2 := 55) hX d_St_read_54 (by decide) rfl ?_
    refine sx_istore_n (pc2 := 56) hX _ [(0, .ref (K.2.2.1 0 0 0)), (1, .int 0)] [1, 0] d_St_read_55 rfl (by decide) rfl rfl rfl ?_
    obtain ⟨f56, h⟩ := h
    exact g_St_read_b56 hX hK hE   f56 0 _ _ h
