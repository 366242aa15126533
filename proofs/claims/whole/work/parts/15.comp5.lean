def y_St_slotsHolding : MethodName := ⟨"SensorTree", "slotsHolding", "()I"⟩
theorem hy_St_slotsHolding : y_St_slotsHolding.cls ≠ "java/lang/invoke/MethodHandle" ∧ y_St_slotsHolding.cls ≠ "java/lang/invoke/VarHandle" ∧ (parseMethodDescriptor y_St_slotsHolding.desc).map (fun d => d.parameters.length) = some 0 := by decide +kernel
theorem d_St_slotsHolding_0 : decode prog_1_method_45_code 0 = .ok (.iconst 0, 1) := by decide +kernel
theorem d_St_slotsHolding_1 : decode prog_1_method_45_code 1 = .ok (.istore_n 1, 1) := by decide +kernel
theorem d_St_slotsHolding_2 : decode prog_1_method_45_code 2 = .ok (.iconst 0, 1) := by decide +kernel
theorem d_St_slotsHolding_3 : decode prog_1_method_45_code 3 = .ok (.istore_n 2, 1) := by decide +kernel
theorem d_St_slotsHolding_4 : decode prog_1_method_45_code 4 = .ok (.iload_n 2, 1) := by decide +kernel
theorem d_St_slotsHolding_5 : decode prog_1_method_45_code 5 = .ok (.iconst 3, 1) := by decide +kernel
theorem d_St_slotsHolding_6 : decode prog_1_method_45_code 6 = .ok (.if_icmp .ge 26, 3) := by decide +kernel
theorem d_St_slotsHolding_9 : decode prog_1_method_45_code 9 = .ok (.iload_n 1, 1) := by decide +kernel
theorem d_St_slotsHolding_10 : decode prog_1_method_45_code 10 = .ok (.aload_n 0, 1) := by decide +kernel
theorem d_St_slotsHolding_11 : decode prog_1_method_45_code 11 = .ok (.getfield 82, 3) := by decide +kernel
theorem d_St_slotsHolding_14 : decode prog_1_method_45_code 14 = .ok (.iload_n 2, 1) := by decide +kernel
theorem d_St_slotsHolding_15 : decode prog_1_method_45_code 15 = .ok (.baload, 1) := by decide +kernel
theorem d_St_slotsHolding_16 : decode prog_1_method_45_code 16 = .ok (.ifCond .eq 7, 3) := by decide +kernel
theorem d_St_slotsHolding_19 : decode prog_1_method_45_code 19 = .ok (.iconst 1, 1) := by decide +kernel
theorem d_St_slotsHolding_20 : decode prog_1_method_45_code 20 = .ok (.goto 4, 3) := by decide +kernel
theorem d_St_slotsHolding_23 : decode prog_1_method_45_code 23 = .ok (.iconst 0, 1) := by decide +kernel
theorem d_St_slotsHolding_24 : decode prog_1_method_45_code 24 = .ok (.iadd, 1) := by decide +kernel
theorem d_St_slotsHolding_25 : decode prog_1_method_45_code 25 = .ok (.istore_n 1, 1) := by decide +kernel
theorem d_St_slotsHolding_26 : decode prog_1_method_45_code 26 = .ok (.iinc 2 1, 3) := by decide +kernel
theorem d_St_slotsHolding_29 : decode prog_1_method_45_code 29 = .ok (.goto (-25), 3) := by decide +kernel
theorem d_St_slotsHolding_32 : decode prog_1_method_45_code 32 = .ok (.iload_n 1, 1) := by decide +kernel
theorem d_St_slotsHolding_33 : decode prog_1_method_45_code 33 = .ok (.ireturn, 1) := by decide +kernel
def wp_St_slotsHolding_b24  (k4 : Int32 → Int32 → sx_M → Prop) (Q : Int32 → sx_M → Prop) (v2 : Int32) (w0 : Int32) (w1 : Int32) (σ : sx_M) : Prop := k4 (w0 + w1) (v2 + 1) σ
def wp_St_slotsHolding_b4   (Q : Int32 → sx_M → Prop) : Nat → Int32 → Int32 → sx_M → Prop
  | 0, _, _, _ => False
  | f + 1, v1, v2, σ => if 3 ≤ v2 then (Q v1 σ) else (vp_in v2 3 ∧ (if σ 39 0 0 v2.toNatClampNeg = 0 then (wp_St_slotsHolding_b24 (wp_St_slotsHolding_b4 Q f) Q v2 v1 0 σ) else (wp_St_slotsHolding_b24 (wp_St_slotsHolding_b4 Q f) Q v2 v1 1 σ)))
def wp_St_slotsHolding  (σ : sx_M) (Q : Int32 → sx_M → Prop) : Prop := ∃ f4, wp_St_slotsHolding_b4 Q f4 0 0 σ
abbrev rm_St_slotsHolding : Room := { frames := 0, cells := 0, slots := 0, locals := 0 }
set_option maxRecDepth 100000 in
set_option maxHeartbeats 4000000 in
theorem g_St_slotsHolding_b24 {l : Launch} {K : sx_K} {X : sx_T}  {k4 : Int32 → Int32 → sx_M → Prop} {Q : Int32 → sx_M → Prop} (hX : sx_C X K prog_1_method_45_code 3 "SensorTree" (some .int) rm_St_slotsHolding l) (hK : kx_C K) (hE : sx_E X K (sx_Qi K (fun r σ _ => Q r σ)))  (hk4 : ∀ (v1 : Int32) (v2 : Int32) (σ : sx_M) (τ : sx_L) , k4 v1 v2 σ → sx_G X K 3 4 [(0, .ref (K.2.2.1 0 0 0)), (1, .int v1), (2, .int v2)] [] (sx_H K σ τ)) (v2 : Int32) (w0 : Int32) (w1 : Int32) (σ : sx_M) (τ : sx_L)  (h : wp_St_slotsHolding_b24 k4 Q  v2 w0 w1 σ) : sx_G X K 3 24 [(0, .ref (K.2.2.1 0 0 0)), (2, .int v2)] [.int w1, .int w0] (sx_H K σ τ) := by
  unfold wp_St_slotsHolding_b24 at h
  refine sx_iadd (pc2 := 25) hX d_St_slotsHolding_24 rfl ?_
  refine sx_istore_n (pc2 := 26) hX _ [(0, .ref (K.2.2.1 0 0 0)), (1, .int (w0 + w1)), (2, .int v2)] [1, 0, 2] d_St_slotsHolding_25 rfl (by decide) rfl rfl rfl ?_
  refine sx_iinc (pc2 := 29) hX 2 _ [(0, .ref (K.2.2.1 0 0 0)), (1, .int (w0 + w1)), (2, .int (v2 + 1))] [1, 2, 0] d_St_slotsHolding_26 rfl (v2 + 1) rfl (by decide) rfl rfl rfl ?_
  refine sx_goto (tgt := 4) hX d_St_slotsHolding_29 (by decide) ?_
  exact hk4 (w0 + w1) (v2 + 1) _ _ h
set_option maxRecDepth 100000 in
set_option maxHeartbeats 4000000 in
theorem g_St_slotsHolding_b4 {l : Launch} {K : sx_K} {X : sx_T}   {Q : Int32 → sx_M → Prop} (hX : sx_C X K prog_1_method_45_code 3 "SensorTree" (some .int) rm_St_slotsHolding l) (hK : kx_C K) (hE : sx_E X K (sx_Qi K (fun r σ _ => Q r σ)))  : ∀ (f : Nat) (v1 : Int32) (v2 : Int32) (σ : sx_M) (τ : sx_L) , wp_St_slotsHolding_b4 Q f v1 v2 σ → sx_G X K 3 4 [(0, .ref (K.2.2.1 0 0 0)), (1, .int v1), (2, .int v2)] [] (sx_H K σ τ) := by
  intro f
  induction f with
  | zero => intro v1 v2 σ τ h; exact (show False from h).elim
  | succ f ih =>
    intro v1 v2 σ τ h
    rw [wp_St_slotsHolding_b4] at h
    refine sx_iload_n (pc2 := 5) hX 2 d_St_slotsHolding_4 rfl rfl rfl ?_
    refine sx_iconst (v := 3) (pc2 := 6) hX d_St_slotsHolding_5 (by decide) rfl ?_
    refine sx_icmp_ge (tgt := 32) (pc2 := 9) hX d_St_slotsHolding_6 (by decide) rfl (fun hc1 => ?_) (fun hc1 => ?_)
    · replace h := sx_t h hc1
      refine sx_iload_n (pc2 := 33) hX 1 d_St_slotsHolding_32 rfl rfl rfl ?_
      exact sx_iret hX hE h d_St_slotsHolding_33
    · replace h := sx_f h hc1
      refine sx_iload_n (pc2 := 10) hX 1 d_St_slotsHolding_9 rfl rfl rfl ?_
      refine sx_aload_n (pc2 := 11) hX 0 d_St_slotsHolding_10 rfl rfl rfl ?_
      refine fg_St_82 (pc2 := 14) hX (hK 0 0 0 (by decide) (by decide)) d_St_slotsHolding_11 rfl ?_
      refine sx_iload_n (pc2 := 15) hX 2 d_St_slotsHolding_14 rfl rfl rfl ?_
      obtain ⟨hc2, h⟩ := h
      refine sx_zald (pc2 := 16) hX (hK 39 0 0 (by decide) (by decide)) rfl hc2 d_St_slotsHolding_15 rfl ?_
      refine sx_if_eq (tgt := 23) (pc2 := 19) hX d_St_slotsHolding_16 (by decide) rfl (fun hc3 => ?_) (fun hc3 => ?_)
      · replace h := sx_t h hc3
        refine sx_iconst (v := 0) (pc2 := 24) hX d_St_slotsHolding_23 (by decide) rfl ?_
        refine sx_sub [(0, .ref (K.2.2.1 0 0 0)), (2, .int v2)] [0, 2] rfl ?_
        exact g_St_slotsHolding_b24 hX hK hE  ih v2 v1 0 _ _ h
      · replace h := sx_f h hc3
        refine sx_iconst (v := 1) (pc2 := 20) hX d_St_slotsHolding_19 (by decide) rfl ?_
        refine sx_goto (tgt := 24) hX d_St_slotsHolding_20 (by decide) ?_
        refine sx_sub [(0, .ref (K.2.2.1 0 0 0)), (2, .int v2)] [0, 2] rfl ?_
        exact g_St_slotsHolding_b24 hX hK hE  ih v2 v1 1 _ _ h
set_option maxRecDepth 100000 in
set_option maxHeartbeats 4000000 in
theorem c_St_slotsHolding {l : Launch} {K : sx_K} (hK : kx_C K)  (σ : sx_M) (τ : sx_L) (Q : Int32 → sx_M → Prop)  (h : wp_St_slotsHolding σ Q) : Met l y_St_slotsHolding (sx_wd y_St_slotsHolding prog_1_method_45_code 3 (some .int)) rm_St_slotsHolding (sx_Pc K [.ref (K.2.2.1 0 0 0)] σ τ) (sx_Qi K (fun r σ _ => Q r σ)) 0 0 (sx_A K) := by
  refine sx_met (by decide) (Nat.le_of_ble_eq_true rfl) (fun X hX hE => ?_)
  replace hX : sx_C X K prog_1_method_45_code 3 "SensorTree" (some .int) rm_St_slotsHolding l := hX
  show sx_G X K 3 0 [(0, .ref (K.2.2.1 0 0 0))] [] (sx_H K σ τ)
  unfold wp_St_slotsHolding at h
  refine sx_iconst (v := 0) (pc2 := 1) hX d_St_slotsHolding_0 (by decide) rfl ?_
  refine sx_istore_n (pc2 := 2) hX _ [(0, .ref (K.2.2.1 0 0 0)), (1, .int 0)] [1, 0] d_St_slotsHolding_1 rfl (by decide) rfl rfl rfl ?_
  refine sx_iconst (v := 0) (pc2 := 3) hX d_St_slotsHolding_2 (by decide) rfl ?_
  refine sx_istore_n (pc2 := 4) hX _ [(0, .ref (K.2.2.1 0 0 0)), (1, .int 0), (2, .int 0)] [1, 2, 0] d_St_slotsHolding_3 rfl (by decide) rfl rfl rfl ?_
  obtain ⟨f4, h⟩ := h
  exact g_St_slotsHolding_b4 hX hK hE   f4 0 0 _ _ h
theorem cl_St_297 {X : sx_T} {K : sx_K} {cc : ByteArray} {nL : Nat} {ret : Option FieldType} {rm : Room} {l : Launch} {pc pc2 : Nat} {lv : List (Nat × Value)} {st : List Value} {σ : sx_M} {τ : sx_L}  {Q : Int32 → sx_M → Prop} (hX : sx_C X K cc nL "SensorTree" ret rm l) (hK : kx_C K) (h : wp_St_slotsHolding  σ Q)  (hR : rm_St_slotsHolding.frames + 1 ≤ rm.frames ∧ 8 + (3 + 11) + rm_St_slotsHolding.locals ≤ rm.locals) (hst : (st.map fun v => v.category).sum ≤ 8) (hd : decode cc pc = .ok (.invokevirtual 297, 3)) (hpc : pc + 3 = pc2) (kk : ∀ (r : Int32) (σ2 : sx_M) (τ2 : sx_L), Q r σ2 → sx_G X K nL pc2 lv (.int r :: st) (sx_H K σ2 τ2)) : sx_G X K nL pc lv (.ref (K.2.2.1 0 0 0) :: st) (sx_H K σ τ) :=
  sx_callVi (Q := fun r σ _ => Q r σ) (As := []) hX (c_St_slotsHolding hK  σ τ Q  h) (hK 0 0 0 (by decide) (by decide)) rfl rfl lk_351 ls_36 hy_St_slotsHolding lk_349 lk_260 lk_350 ⟨rfl, rfl⟩ hR hst rfl hd hpc kk
def y_St_count : MethodName := ⟨"SensorTree", "count", "(I)I"⟩
theorem hy_St_count : y_St_count.cls ≠ "java/lang/invoke/MethodHandle" ∧ y_St_count.cls ≠ "java/lang/invoke/VarHandle" ∧ (parseMethodDescriptor y_St_count.desc).map (fun d => d.parameters.length) = some 1 := by decide +kernel
theorem d_St_count_0 : decode prog_1_method_38_code 0 = .ok (.iload_n 1, 1) := by decide +kernel
theorem d_St_count_1 : decode prog_1_method_38_code 1 = .ok (.tableswitch 228 0 17 #[87, 95, 103, 111, 122, 130, 138, 146, 154, 162, 167, 175, 180, 188, 196, 204, 212, 220], 87) := by decide +kernel
theorem d_St_count_88 : decode prog_1_method_38_code 88 = .ok (.aload_n 0, 1) := by decide +kernel
theorem d_St_count_89 : decode prog_1_method_38_code 89 = .ok (.getfield 26, 3) := by decide +kernel
theorem d_St_count_92 : decode prog_1_method_38_code 92 = .ok (.getfield 160, 3) := by decide +kernel
theorem d_St_count_95 : decode prog_1_method_38_code 95 = .ok (.ireturn, 1) := by decide +kernel
theorem d_St_count_96 : decode prog_1_method_38_code 96 = .ok (.aload_n 0, 1) := by decide +kernel
theorem d_St_count_97 : decode prog_1_method_38_code 97 = .ok (.getfield 26, 3) := by decide +kernel
theorem d_St_count_100 : decode prog_1_method_38_code 100 = .ok (.getfield 255, 3) := by decide +kernel
theorem d_St_count_103 : decode prog_1_method_38_code 103 = .ok (.ireturn, 1) := by decide +kernel
theorem d_St_count_104 : decode prog_1_method_38_code 104 = .ok (.aload_n 0, 1) := by decide +kernel
theorem d_St_count_105 : decode prog_1_method_38_code 105 = .ok (.getfield 35, 3) := by decide +kernel
theorem d_St_count_108 : decode prog_1_method_38_code 108 = .ok (.getfield 125, 3) := by decide +kernel
theorem d_St_count_111 : decode prog_1_method_38_code 111 = .ok (.ireturn, 1) := by decide +kernel
theorem d_St_count_112 : decode prog_1_method_38_code 112 = .ok (.aload_n 0, 1) := by decide +kernel
theorem d_St_count_113 : decode prog_1_method_38_code 113 = .ok (.getfield 35, 3) := by decide +kernel
theorem d_St_count_116 : decode prog_1_method_38_code 116 = .ok (.getfield 275, 3) := by decide +kernel
theorem d_St_count_119 : decode prog_1_method_38_code 119 = .ok (.getfield 279, 3) := by decide +kernel
theorem d_St_count_122 : decode prog_1_method_38_code 122 = .ok (.ireturn, 1) := by decide +kernel
theorem d_St_count_123 : decode prog_1_method_38_code 123 = .ok (.aload_n 0, 1) := by decide +kernel
theorem d_St_count_124 : decode prog_1_method_38_code 124 = .ok (.getfield 35, 3) := by decide +kernel
theorem d_St_count_127 : decode prog_1_method_38_code 127 = .ok (.getfield 282, 3) := by decide +kernel
theorem d_St_count_130 : decode prog_1_method_38_code 130 = .ok (.ireturn, 1) := by decide +kernel
theorem d_St_count_131 : decode prog_1_method_38_code 131 = .ok (.aload_n 0, 1) := by decide +kernel
theorem d_St_count_132 : decode prog_1_method_38_code 132 = .ok (.getfield 35, 3) := by decide +kernel
theorem d_St_count_135 : decode prog_1_method_38_code 135 = .ok (.getfield 285, 3) := by decide +kernel
theorem d_St_count_138 : decode prog_1_method_38_code 138 = .ok (.ireturn, 1) := by decide +kernel
theorem d_St_count_139 : decode prog_1_method_38_code 139 = .ok (.aload_n 0, 1) := by decide +kernel
theorem d_St_count_140 : decode prog_1_method_38_code 140 = .ok (.getfield 35, 3) := by decide +kernel
theorem d_St_count_143 : decode prog_1_method_38_code 143 = .ok (.getfield 288, 3) := by decide +kernel
theorem d_St_count_146 : decode prog_1_method_38_code 146 = .ok (.ireturn, 1) := by decide +kernel
theorem d_St_count_147 : decode prog_1_method_38_code 147 = .ok (.aload_n 0, 1) := by decide +kernel
theorem d_St_count_148 : decode prog_1_method_38_code 148 = .ok (.getfield 35, 3) := by decide +kernel
theorem d_St_count_151 : decode prog_1_method_38_code 151 = .ok (.invokevirtual 291, 3) := by decide +kernel
theorem d_St_count_154 : decode prog_1_method_38_code 154 = .ok (.ireturn, 1) := by decide +kernel
theorem d_St_count_155 : decode prog_1_method_38_code 155 = .ok (.aload_n 0, 1) := by decide +kernel
theorem d_St_count_156 : decode prog_1_method_38_code 156 = .ok (.getfield 10, 3) := by decide +kernel
theorem d_St_count_159 : decode prog_1_method_38_code 159 = .ok (.getfield 89, 3) := by decide +kernel
theorem d_St_count_162 : decode prog_1_method_38_code 162 = .ok (.ireturn, 1) := by decide +kernel
theorem d_St_count_163 : decode prog_1_method_38_code 163 = .ok (.aload_n 0, 1) := by decide +kernel
theorem d_St_count_164 : decode prog_1_method_38_code 164 = .ok (.getfield 76, 3) := by decide +kernel
theorem d_St_count_167 : decode prog_1_method_38_code 167 = .ok (.ireturn, 1) := by decide +kernel
theorem d_St_count_168 : decode prog_1_method_38_code 168 = .ok (.aload_n 0, 1) := by decide +kernel
theorem d_St_count_169 : decode prog_1_method_38_code 169 = .ok (.getfield 35, 3) := by decide +kernel
theorem d_St_count_172 : decode prog_1_method_38_code 172 = .ok (.invokevirtual 294, 3) := by decide +kernel
theorem d_St_count_175 : decode prog_1_method_38_code 175 = .ok (.ireturn, 1) := by decide +kernel
theorem d_St_count_176 : decode prog_1_method_38_code 176 = .ok (.aload_n 0, 1) := by decide +kernel
theorem d_St_count_177 : decode prog_1_method_38_code 177 = .ok (.invokevirtual 297, 3) := by decide +kernel
theorem d_St_count_180 : decode prog_1_method_38_code 180 = .ok (.ireturn, 1) := by decide +kernel
theorem d_St_count_181 : decode prog_1_method_38_code 181 = .ok (.aload_n 0, 1) := by decide +kernel
theorem d_St_count_182 : decode prog_1_method_38_code 182 = .ok (.getfield 35, 3) := by decide +kernel
theorem d_St_count_185 : decode prog_1_method_38_code 185 = .ok (.getfield 300, 3) := by decide +kernel
theorem d_St_count_188 : decode prog_1_method_38_code 188 = .ok (.ireturn, 1) := by decide +kernel
theorem d_St_count_189 : decode prog_1_method_38_code 189 = .ok (.aload_n 0, 1) := by decide +kernel
theorem d_St_count_190 : decode prog_1_method_38_code 190 = .ok (.getfield 35, 3) := by decide +kernel
theorem d_St_count_193 : decode prog_1_method_38_code 193 = .ok (.getfield 303, 3) := by decide +kernel
theorem d_St_count_196 : decode prog_1_method_38_code 196 = .ok (.ireturn, 1) := by decide +kernel
theorem d_St_count_197 : decode prog_1_method_38_code 197 = .ok (.aload_n 0, 1) := by decide +kernel
theorem d_St_count_198 : decode prog_1_method_38_code 198 = .ok (.getfield 35, 3) := by decide +kernel
theorem d_St_count_201 : decode prog_1_method_38_code 201 = .ok (.getfield 306, 3) := by decide +kernel
theorem d_St_count_204 : decode prog_1_method_38_code 204 = .ok (.ireturn, 1) := by decide +kernel
theorem d_St_count_205 : decode prog_1_method_38_code 205 = .ok (.aload_n 0, 1) := by decide +kernel
theorem d_St_count_206 : decode prog_1_method_38_code 206 = .ok (.getfield 35, 3) := by decide +kernel
theorem d_St_count_209 : decode prog_1_method_38_code 209 = .ok (.invokevirtual 309, 3) := by decide +kernel
theorem d_St_count_212 : decode prog_1_method_38_code 212 = .ok (.ireturn, 1) := by decide +kernel
theorem d_St_count_213 : decode prog_1_method_38_code 213 = .ok (.aload_n 0, 1) := by decide +kernel
theorem d_St_count_214 : decode prog_1_method_38_code 214 = .ok (.getfield 35, 3) := by decide +kernel
theorem d_St_count_217 : decode prog_1_method_38_code 217 = .ok (.invokevirtual 312, 3) := by decide +kernel
theorem d_St_count_220 : decode prog_1_method_38_code 220 = .ok (.ireturn, 1) := by decide +kernel
theorem d_St_count_221 : decode prog_1_method_38_code 221 = .ok (.aload_n 0, 1) := by decide +kernel
theorem d_St_count_222 : decode prog_1_method_38_code 222 = .ok (.getfield 35, 3) := by decide +kernel
theorem d_St_count_225 : decode prog_1_method_38_code 225 = .ok (.invokevirtual 315, 3) := by decide +kernel
theorem d_St_count_228 : decode prog_1_method_38_code 228 = .ok (.ireturn, 1) := by decide +kernel
theorem d_St_count_229 : decode prog_1_method_38_code 229 = .ok (.iconst (-1), 1) := by decide +kernel
theorem d_St_count_230 : decode prog_1_method_38_code 230 = .ok (.ireturn, 1) := by decide +kernel
def wp_St_count (x1 : Int32) (σ : sx_M) (Q : Int32 → sx_M → Prop) : Prop := if x1 = 0 then (Q (σ 8 0 0 0) σ) else (if x1 = 1 then (Q (σ 8 0 0 1) σ) else (if x1 = 2 then (Q (σ 16 0 0 1) σ) else (if x1 = 3 then (Q (σ 20 0 0 0) σ) else (if x1 = 4 then (Q (σ 16 0 0 2) σ) else (if x1 = 5 then (Q (σ 16 0 0 3) σ) else (if x1 = 6 then (Q (σ 16 0 0 4) σ) else (if x1 = 7 then (wp_Ne_routes 0 σ (fun r9 σ9 => Q r9 σ9)) else (if x1 = 8 then (Q (σ 1 0 0 1) σ) else (if x1 = 9 then (Q (σ 0 0 0 11) σ) else (if x1 = 10 then (wp_Ne_postsOn 0 σ (fun r13 σ13 => Q r13 σ13)) else (if x1 = 11 then (wp_St_slotsHolding σ (fun r15 σ15 => Q r15 σ15)) else (if x1 = 12 then (Q (σ 16 0 0 5) σ) else (if x1 = 13 then (Q (σ 16 0 0 6) σ) else (if x1 = 14 then (Q (σ 16 0 0 7) σ) else (if x1 = 15 then (wp_Ne_greatestRank 0 σ (fun r20 σ20 => Q r20 σ20)) else (if x1 = 16 then (wp_Ne_postsResting 0 σ (fun r22 σ22 => Q r22 σ22)) else (if x1 = 17 then (wp_Ne_postsAlone 0 σ (fun r24 σ24 => Q r24 σ24)) else (Q (-1) σ))))))))))))))))))
abbrev rm_St_count : Room := { frames := 2, cells := 0, slots := 0, locals := 36 }
set_option maxRecDepth 100000 in
set_option maxHeartbeats 4000000 in
theorem c_St_count {l : Launch} {K : sx_K} (hK : kx_C K) (x1 : Int32) (σ : sx_M) (τ : sx_L) (Q : Int32 → sx_M → Prop)  (h : wp_St_count x1 σ Q) : Met l y_St_count (sx_wd y_St_count prog_1_method_38_code 2 (some .int)) rm_St_count (sx_Pc K [.ref (K.2.2.1 0 0 0), .int x1] σ τ) (sx_Qi K (fun r σ _ => Q r σ)) 0 0 (sx_A K) := by
  refine sx_met (by decide) (Nat.le_of_ble_eq_true rfl) (fun X hX hE => ?_)
  replace hX : sx_C X K prog_1_method_38_code 2 "SensorTree" (some .int) rm_St_count l := hX
  show sx_G X K 2 0 [(0, .ref (K.2.2.1 0 0 0)), (1, .int x1)] [] (sx_H K σ τ)
  unfold wp_St_count at h
  refine sx_iload_n (pc2 := 1) hX 1 d_St_count_0 rfl rfl rfl ?_
  by_cases hc1 : x1 = 0
  · replace h := sx_t h hc1
    refine sx_swi (tgt := 88) hX 0 hc1 d_St_count_1 (by decide) (by decide) rfl (by decide) ?_
    refine sx_aload_n (pc2 := 89) hX 0 d_St_count_88 rfl rfl rfl ?_
    refine fg_St_26 (pc2 := 92) hX (hK 0 0 0 (by decide) (by decide)) d_St_count_89 rfl ?_
    refine fg_St_160 (pc2 := 95) hX (hK 8 0 0 (by decide) (by decide)) d_St_count_92 rfl ?_
    exact sx_iret hX hE h d_St_count_95
  · replace h := sx_f h hc1
    by_cases hc2 : x1 = 1
    · replace h := sx_t h hc2
      refine sx_swi (tgt := 96) hX 1 hc2 d_St_count_1 (by decide) (by decide) rfl (by decide) ?_
      refine sx_aload_n (pc2 := 97) hX 0 d_St_count_96 rfl rfl rfl ?_
      refine fg_St_26 (pc2 := 100) hX (hK 0 0 0 (by decide) (by decide)) d_St_count_97 rfl ?_
      refine fg_St_255 (pc2 := 103) hX (hK 8 0 0 (by decide) (by decide)) d_St_count_100 rfl ?_
      exact sx_iret hX hE h d_St_count_103
    · replace h := sx_f h hc2
      by_cases hc3 : x1 = 2
      · replace h := sx_t h hc3
        refine sx_swi (tgt := 104) hX 2 hc3 d_St_count_1 (by decide) (by decide) rfl (by decide) ?_
        refine sx_aload_n (pc2 := 105) hX 0 d_St_count_104 rfl rfl rfl ?_
        refine fg_St_35 (pc2 := 108) hX (hK 0 0 0 (by decide) (by decide)) d_St_count_105 rfl ?_
        refine fg_St_125 (pc2 := 111) hX (hK 16 0 0 (by decide) (by decide)) d_St_count_108 rfl ?_
        exact sx_iret hX hE h d_St_count_111
      · replace h := sx_f h hc3
        by_cases hc4 : x1 = 3
        · replace h := sx_t h hc4
          refine sx_swi (tgt := 112) hX 3 hc4 d_St_count_1 (by decide) (by decide) rfl (by decide) ?_
          refine sx_aload_n (pc2 := 113) hX 0 d_St_count_112 rfl rfl rfl ?_
          refine fg_St_35 (pc2 := 116) hX (hK 0 0 0 (by decide) (by decide)) d_St_count_113 rfl ?_
          refine fg_St_275 (pc2 := 119) hX (hK 16 0 0 (by decide) (by decide)) d_St_count_116 rfl ?_
          refine fg_St_279 (pc2 := 122) hX (hK 20 0 0 (by decide) (by decide)) d_St_count_119 rfl ?_
          exact sx_iret hX hE h d_St_count_122
        · replace h := sx_f h hc4
          by_cases hc5 : x1 = 4
          · replace h := sx_t h hc5
            refine sx_swi (tgt := 123) hX 4 hc5 d_St_count_1 (by decide) (by decide) rfl (by decide) ?_
            refine sx_aload_n (pc2 := 124) hX 0 d_St_count_123 rfl rfl rfl ?_
            refine fg_St_35 (pc2 := 127) hX (hK 0 0 0 (by decide) (by decide)) d_St_count_124 rfl ?_
            refine fg_St_282 (pc2 := 130) hX (hK 16 0 0 (by decide) (by decide)) d_St_count_127 rfl ?_
            exact sx_iret hX hE h d_St_count_130
          · replace h := sx_f h hc5
            by_cases hc6 : x1 = 5
            · replace h := sx_t h hc6
              refine sx_swi (tgt := 131) hX 5 hc6 d_St_count_1 (by decide) (by decide) rfl (by decide) ?_
              refine sx_aload_n (pc2 := 132) hX 0 d_St_count_131 rfl rfl rfl ?_
              refine fg_St_35 (pc2 := 135) hX (hK 0 0 0 (by decide) (by decide)) d_St_count_132 rfl ?_
              refine fg_St_285 (pc2 := 138) hX (hK 16 0 0 (by decide) (by decide)) d_St_count_135 rfl ?_
              exact sx_iret hX hE h d_St_count_138
            · replace h := sx_f h hc6
              by_cases hc7 : x1 = 6
              · replace h := sx_t h hc7
                refine sx_swi (tgt := 139) hX 6 hc7 d_St_count_1 (by decide) (by decide) rfl (by decide) ?_
                refine sx_aload_n (pc2 := 140) hX 0 d_St_count_139 rfl rfl rfl ?_
                refine fg_St_35 (pc2 := 143) hX (hK 0 0 0 (by decide) (by decide)) d_St_count_140 rfl ?_
                refine fg_St_288 (pc2 := 146) hX (hK 16 0 0 (by decide) (by decide)) d_St_count_143 rfl ?_
                exact sx_iret hX hE h d_St_count_146
              · replace h := sx_f h hc7
                by_cases hc8 : x1 = 7
                · replace h := sx_t h hc8
                  refine sx_swi (tgt := 147) hX 7 hc8 d_St_count_1 (by decide) (by decide) rfl (by decide) ?_
                  refine sx_aload_n (pc2 := 148) hX 0 d_St_count_147 rfl rfl rfl ?_
                  refine fg_St_35 (pc2 := 151) hX (hK 0 0 0 (by decide) (by decide)) d_St_count_148 rfl ?_
                  refine cl_St_291 (pc2 := 154) hX hK h (by decide) ⟨Nat.le_of_ble_eq_true rfl, Nat.le_of_ble_eq_true rfl⟩ (Nat.le_of_ble_eq_true rfl) d_St_count_151 rfl (fun r9 σ9 τ9 h => ?_)
                  exact sx_iret hX hE h d_St_count_154
                · replace h := sx_f h hc8
                  by_cases hc10 : x1 = 8
                  · replace h := sx_t h hc10
                    refine sx_swi (tgt := 155) hX 8 hc10 d_St_count_1 (by decide) (by decide) rfl (by decide) ?_
                    refine sx_aload_n (pc2 := 156) hX 0 d_St_count_155 rfl rfl rfl ?_
                    refine fg_St_10 (pc2 := 159) hX (hK 0 0 0 (by decide) (by decide)) d_St_count_156 rfl ?_
                    refine fg_St_89 (pc2 := 162) hX (hK 1 0 0 (by decide) (by decide)) d_St_count_159 rfl ?_
                    exact sx_iret hX hE h d_St_count_162
                  · replace h := sx_f h hc10
                    by_cases hc11 : x1 = 9
                    · replace h := sx_t h hc11
                      refine sx_swi (tgt := 163) hX 9 hc11 d_St_count_1 (by decide) (by decide) rfl (by decide) ?_
                      refine sx_aload_n (pc2 := 164) hX 0 d_St_count_163 rfl rfl rfl ?_
                      refine fg_St_76 (pc2 := 167) hX (hK 0 0 0 (by decide) (by decide)) d_St_count_164 rfl ?_
                      exact sx_iret hX hE h d_St_count_167
                    · replace h := sx_f h hc11
                      by_cases hc12 : x1 = 10
                      · replace h := sx_t h hc12
                        refine sx_swi (tgt := 168) hX 10 hc12 d_St_count_1 (by decide) (by decide) rfl (by decide) ?_
                        refine sx_aload_n (pc2 := 169) hX 0 d_St_count_168 rfl rfl rfl ?_
                        refine fg_St_35 (pc2 := 172) hX (hK 0 0 0 (by decide) (by decide)) d_St_count_169 rfl ?_
                        refine cl_St_294 (pc2 := 175) hX hK h (by decide) ⟨Nat.le_of_ble_eq_true rfl, Nat.le_of_ble_eq_true rfl⟩ (Nat.le_of_ble_eq_true rfl) d_St_count_172 rfl (fun r13 σ13 τ13 h => ?_)
                        exact sx_iret hX hE h d_St_count_175
                      · replace h := sx_f h hc12
                        by_cases hc14 : x1 = 11
                        · replace h := sx_t h hc14
                          refine sx_swi (tgt := 176) hX 11 hc14 d_St_count_1 (by decide) (by decide) rfl (by decide) ?_
                          refine sx_aload_n (pc2 := 177) hX 0 d_St_count_176 rfl rfl rfl ?_
                          refine cl_St_297 (pc2 := 180) hX hK h  ⟨Nat.le_of_ble_eq_true rfl, Nat.le_of_ble_eq_true rfl⟩ (Nat.le_of_ble_eq_true rfl) d_St_count_177 rfl (fun r15 σ15 τ15 h => ?_)
                          exact sx_iret hX hE h d_St_count_180
                        · replace h := sx_f h hc14
                          by_cases hc16 : x1 = 12
                          · replace h := sx_t h hc16
                            refine sx_swi (tgt := 181) hX 12 hc16 d_St_count_1 (by decide) (by decide) rfl (by decide) ?_
                            refine sx_aload_n (pc2 := 182) hX 0 d_St_count_181 rfl rfl rfl ?_
                            refine fg_St_35 (pc2 := 185) hX (hK 0 0 0 (by decide) (by decide)) d_St_count_182 rfl ?_
                            refine fg_St_300 (pc2 := 188) hX (hK 16 0 0 (by decide) (by decide)) d_St_count_185 rfl ?_
                            exact sx_iret hX hE h d_St_count_188
                          · replace h := sx_f h hc16
                            by_cases hc17 : x1 = 13
                            · replace h := sx_t h hc17
                              refine sx_swi (tgt := 189) hX 13 hc17 d_St_count_1 (by decide) (by decide) rfl (by decide) ?_
                              refine sx_aload_n (pc2 := 190) hX 0 d_St_count_189 rfl rfl rfl ?_
                              refine fg_St_35 (pc2 := 193) hX (hK 0 0 0 (by decide) (by decide)) d_St_count_190 rfl ?_
                              refine fg_St_303 (pc2 := 196) hX (hK 16 0 0 (by decide) (by decide)) d_St_count_193 rfl ?_
                              exact sx_iret hX hE h d_St_count_196
                            · replace h := sx_f h hc17
                              by_cases hc18 : x1 = 14
                              · replace h := sx_t h hc18
                                refine sx_swi (tgt := 197) hX 14 hc18 d_St_count_1 (by decide) (by decide) rfl (by decide) ?_
                                refine sx_aload_n (pc2 := 198) hX 0 d_St_count_197 rfl rfl rfl ?_
                                refine fg_St_35 (pc2 := 201) hX (hK 0 0 0 (by decide) (by decide)) d_St_count_198 rfl ?_
                                refine fg_St_306 (pc2 := 204) hX (hK 16 0 0 (by decide) (by decide)) d_St_count_201 rfl ?_
                                exact sx_iret hX hE h d_St_count_204
                              · replace h := sx_f h hc18
                                by_cases hc19 : x1 = 15
                                · replace h := sx_t h hc19
                                  refine sx_swi (tgt := 205) hX 15 hc19 d_St_count_1 (by decide) (by decide) rfl (by decide) ?_
                                  refine sx_aload_n (pc2 := 206) hX 0 d_St_count_205 rfl rfl rfl ?_
                                  refine fg_St_35 (pc2 := 209) hX (hK 0 0 0 (by decide) (by decide)) d_St_count_206 rfl ?_
                                  refine cl_St_309 (pc2 := 212) hX hK h (by decide) ⟨Nat.le_of_ble_eq_true rfl, Nat.le_of_ble_eq_true rfl⟩ (Nat.le_of_ble_eq_true rfl) d_St_count_209 rfl (fun r20 σ20 τ20 h => ?_)
                                  exact sx_iret hX hE h d_St_count_212
                                · replace h := sx_f h hc19
                                  by_cases hc21 : x1 = 16
                                  · replace h := sx_t h hc21
                                    refine sx_swi (tgt := 213) hX 16 hc21 d_St_count_1 (by decide) (by decide) rfl (by decide) ?_
                                    refine sx_aload_n (pc2 := 214) hX 0 d_St_count_213 rfl rfl rfl ?_
                                    refine fg_St_35 (pc2 := 217) hX (hK 0 0 0 (by decide) (by decide)) d_St_count_214 rfl ?_
                                    refine cl_St_312 (pc2 := 220) hX hK h (by decide) ⟨Nat.le_of_ble_eq_true rfl, Nat.le_of_ble_eq_true rfl⟩ (Nat.le_of_ble_eq_true rfl) d_St_count_217 rfl (fun r22 σ22 τ22 h => ?_)
                                    exact sx_iret hX hE h d_St_count_220
                                  · replace h := sx_f h hc21
                                    by_cases hc23 : x1 = 17
                                    · replace h := sx_t h hc23
                                      refine sx_swi (tgt := 221) hX 17 hc23 d_St_count_1 (by decide) (by decide) rfl (by decide) ?_
                                      refine sx_aload_n (pc2 := 222) hX 0 d_St_count_221 rfl rfl rfl ?_
                                      refine fg_St_35 (pc2 := 225) hX (hK 0 0 0 (by decide) (by decide)) d_St_count_222 rfl ?_
                                      refine cl_St_315 (pc2 := 228) hX hK h (by decide) ⟨Nat.le_of_ble_eq_true rfl, Nat.le_of_ble_eq_true rfl⟩ (Nat.le_of_ble_eq_true rfl) d_St_count_225 rfl (fun r24 σ24 τ24 h => ?_)
                                      exact sx_iret hX hE h d_St_count_228
                                    · replace h := sx_f h hc23
                                      refine sx_swo (tgt := 229) hX d_St_count_1 (sx_out x1 17 (fun j hj => match j, hj with | 0, _ => hc1 | 1, _ => hc2 | 2, _ => hc3 | 3, _ => hc4 | 4, _ => hc5 | 5, _ => hc6 | 6, _ => hc7 | 7, _ => hc8 | 8, _ => hc10 | 9, _ => hc11 | 10, _ => hc12 | 11, _ => hc14 | 12, _ => hc16 | 13, _ => hc17 | 14, _ => hc18 | 15, _ => hc19 | 16, _ => hc21 | 17, _ => hc23 | j + 18, hj => absurd hj (by omega)) (by decide)) (by decide) ?_
                                      refine sx_iconst (v := (-1)) (pc2 := 230) hX d_St_count_229 (by decide) rfl ?_
                                      exact sx_iret hX hE h d_St_count_230
