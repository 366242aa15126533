def y_Mo_tellLink : MethodName := ⟨"SensorTreeModel", "tellLink", "()V"⟩
theorem hy_Mo_tellLink : y_Mo_tellLink.cls ≠ "java/lang/invoke/MethodHandle" ∧ y_Mo_tellLink.cls ≠ "java/lang/invoke/VarHandle" ∧ (parseMethodDescriptor y_Mo_tellLink.desc).map (fun d => d.parameters.length) = some 0 := by decide +kernel
theorem d_Mo_tellLink_0 : decode prog_13_method_30_code 0 = .ok (.aload_n 0, 1) := by decide +kernel
theorem d_Mo_tellLink_1 : decode prog_13_method_30_code 1 = .ok (.invokevirtual 212, 3) := by decide +kernel
theorem d_Mo_tellLink_4 : decode prog_13_method_30_code 4 = .ok (.istore_n 1, 1) := by decide +kernel
theorem d_Mo_tellLink_5 : decode prog_13_method_30_code 5 = .ok (.aload_n 0, 1) := by decide +kernel
theorem d_Mo_tellLink_6 : decode prog_13_method_30_code 6 = .ok (.getfield 146, 3) := by decide +kernel
theorem d_Mo_tellLink_9 : decode prog_13_method_30_code 9 = .ok (.istore_n 2, 1) := by decide +kernel
theorem d_Mo_tellLink_10 : decode prog_13_method_30_code 10 = .ok (.aload_n 0, 1) := by decide +kernel
theorem d_Mo_tellLink_11 : decode prog_13_method_30_code 11 = .ok (.invokevirtual 212, 3) := by decide +kernel
theorem d_Mo_tellLink_14 : decode prog_13_method_30_code 14 = .ok (.istore_n 3, 1) := by decide +kernel
theorem d_Mo_tellLink_15 : decode prog_13_method_30_code 15 = .ok (.aload_n 0, 1) := by decide +kernel
theorem d_Mo_tellLink_16 : decode prog_13_method_30_code 16 = .ok (.getfield 143, 3) := by decide +kernel
theorem d_Mo_tellLink_19 : decode prog_13_method_30_code 19 = .ok (.ifCond .le 4, 3) := by decide +kernel
theorem d_Mo_tellLink_22 : decode prog_13_method_30_code 22 = .ok (.return_, 1) := by decide +kernel
theorem d_Mo_tellLink_23 : decode prog_13_method_30_code 23 = .ok (.iload_n 1, 1) := by decide +kernel
theorem d_Mo_tellLink_24 : decode prog_13_method_30_code 24 = .ok (.ifCond .lt 11, 3) := by decide +kernel
theorem d_Mo_tellLink_27 : decode prog_13_method_30_code 27 = .ok (.iload_n 3, 1) := by decide +kernel
theorem d_Mo_tellLink_28 : decode prog_13_method_30_code 28 = .ok (.ifCond .lt 7, 3) := by decide +kernel
theorem d_Mo_tellLink_31 : decode prog_13_method_30_code 31 = .ok (.iconst 1, 1) := by decide +kernel
theorem d_Mo_tellLink_32 : decode prog_13_method_30_code 32 = .ok (.goto 4, 3) := by decide +kernel
theorem d_Mo_tellLink_35 : decode prog_13_method_30_code 35 = .ok (.iconst 0, 1) := by decide +kernel
theorem d_Mo_tellLink_36 : decode prog_13_method_30_code 36 = .ok (.istore 4, 2) := by decide +kernel
theorem d_Mo_tellLink_38 : decode prog_13_method_30_code 38 = .ok (.iload 4, 2) := by decide +kernel
theorem d_Mo_tellLink_40 : decode prog_13_method_30_code 40 = .ok (.ifCond .eq 36, 3) := by decide +kernel
theorem d_Mo_tellLink_43 : decode prog_13_method_30_code 43 = .ok (.iload_n 1, 1) := by decide +kernel
theorem d_Mo_tellLink_44 : decode prog_13_method_30_code 44 = .ok (.iload_n 3, 1) := by decide +kernel
theorem d_Mo_tellLink_45 : decode prog_13_method_30_code 45 = .ok (.if_icmp .eq 25, 3) := by decide +kernel
theorem d_Mo_tellLink_48 : decode prog_13_method_30_code 48 = .ok (.aload_n 0, 1) := by decide +kernel
theorem d_Mo_tellLink_49 : decode prog_13_method_30_code 49 = .ok (.getfield 58, 3) := by decide +kernel
theorem d_Mo_tellLink_52 : decode prog_13_method_30_code 52 = .ok (.bipush 49, 2) := by decide +kernel
theorem d_Mo_tellLink_54 : decode prog_13_method_30_code 54 = .ok (.aload_n 0, 1) := by decide +kernel
theorem d_Mo_tellLink_55 : decode prog_13_method_30_code 55 = .ok (.getfield 173, 3) := by decide +kernel
theorem d_Mo_tellLink_58 : decode prog_13_method_30_code 58 = .ok (.imul, 1) := by decide +kernel
theorem d_Mo_tellLink_59 : decode prog_13_method_30_code 59 = .ok (.bipush 7, 2) := by decide +kernel
theorem d_Mo_tellLink_61 : decode prog_13_method_30_code 61 = .ok (.iload_n 1, 1) := by decide +kernel
theorem d_Mo_tellLink_62 : decode prog_13_method_30_code 62 = .ok (.imul, 1) := by decide +kernel
theorem d_Mo_tellLink_63 : decode prog_13_method_30_code 63 = .ok (.iadd, 1) := by decide +kernel
theorem d_Mo_tellLink_64 : decode prog_13_method_30_code 64 = .ok (.iload_n 3, 1) := by decide +kernel
theorem d_Mo_tellLink_65 : decode prog_13_method_30_code 65 = .ok (.iadd, 1) := by decide +kernel
theorem d_Mo_tellLink_66 : decode prog_13_method_30_code 66 = .ok (.iaload, 1) := by decide +kernel
theorem d_Mo_tellLink_67 : decode prog_13_method_30_code 67 = .ok (.ifCond .lt 9, 3) := by decide +kernel
theorem d_Mo_tellLink_70 : decode prog_13_method_30_code 70 = .ok (.aload_n 0, 1) := by decide +kernel
theorem d_Mo_tellLink_71 : decode prog_13_method_30_code 71 = .ok (.iconst 3, 1) := by decide +kernel
theorem d_Mo_tellLink_72 : decode prog_13_method_30_code 72 = .ok (.iload_n 2, 1) := by decide +kernel
theorem d_Mo_tellLink_73 : decode prog_13_method_30_code 73 = .ok (.invokevirtual 182, 3) := by decide +kernel
theorem d_Mo_tellLink_76 : decode prog_13_method_30_code 76 = .ok (.aload_n 0, 1) := by decide +kernel
theorem d_Mo_tellLink_77 : decode prog_13_method_30_code 77 = .ok (.getfield 43, 3) := by decide +kernel
theorem d_Mo_tellLink_80 : decode prog_13_method_30_code 80 = .ok (.aload_n 0, 1) := by decide +kernel
theorem d_Mo_tellLink_81 : decode prog_13_method_30_code 81 = .ok (.getfield 173, 3) := by decide +kernel
theorem d_Mo_tellLink_84 : decode prog_13_method_30_code 84 = .ok (.iaload, 1) := by decide +kernel
theorem d_Mo_tellLink_85 : decode prog_13_method_30_code 85 = .ok (.istore 5, 2) := by decide +kernel
theorem d_Mo_tellLink_87 : decode prog_13_method_30_code 87 = .ok (.aload_n 0, 1) := by decide +kernel
theorem d_Mo_tellLink_88 : decode prog_13_method_30_code 88 = .ok (.getfield 49, 3) := by decide +kernel
theorem d_Mo_tellLink_91 : decode prog_13_method_30_code 91 = .ok (.bipush 16, 2) := by decide +kernel
theorem d_Mo_tellLink_93 : decode prog_13_method_30_code 93 = .ok (.aload_n 0, 1) := by decide +kernel
theorem d_Mo_tellLink_94 : decode prog_13_method_30_code 94 = .ok (.getfield 173, 3) := by decide +kernel
theorem d_Mo_tellLink_97 : decode prog_13_method_30_code 97 = .ok (.imul, 1) := by decide +kernel
theorem d_Mo_tellLink_98 : decode prog_13_method_30_code 98 = .ok (.iload 5, 2) := by decide +kernel
theorem d_Mo_tellLink_100 : decode prog_13_method_30_code 100 = .ok (.iadd, 1) := by decide +kernel
theorem d_Mo_tellLink_101 : decode prog_13_method_30_code 101 = .ok (.iload_n 1, 1) := by decide +kernel
theorem d_Mo_tellLink_102 : decode prog_13_method_30_code 102 = .ok (.iastore, 1) := by decide +kernel
theorem d_Mo_tellLink_103 : decode prog_13_method_30_code 103 = .ok (.aload_n 0, 1) := by decide +kernel
theorem d_Mo_tellLink_104 : decode prog_13_method_30_code 104 = .ok (.getfield 52, 3) := by decide +kernel
theorem d_Mo_tellLink_107 : decode prog_13_method_30_code 107 = .ok (.bipush 16, 2) := by decide +kernel
theorem d_Mo_tellLink_109 : decode prog_13_method_30_code 109 = .ok (.aload_n 0, 1) := by decide +kernel
theorem d_Mo_tellLink_110 : decode prog_13_method_30_code 110 = .ok (.getfield 173, 3) := by decide +kernel
theorem d_Mo_tellLink_113 : decode prog_13_method_30_code 113 = .ok (.imul, 1) := by decide +kernel
theorem d_Mo_tellLink_114 : decode prog_13_method_30_code 114 = .ok (.iload 5, 2) := by decide +kernel
theorem d_Mo_tellLink_116 : decode prog_13_method_30_code 116 = .ok (.iadd, 1) := by decide +kernel
theorem d_Mo_tellLink_117 : decode prog_13_method_30_code 117 = .ok (.iload_n 3, 1) := by decide +kernel
theorem d_Mo_tellLink_118 : decode prog_13_method_30_code 118 = .ok (.iastore, 1) := by decide +kernel
theorem d_Mo_tellLink_119 : decode prog_13_method_30_code 119 = .ok (.iload 4, 2) := by decide +kernel
theorem d_Mo_tellLink_121 : decode prog_13_method_30_code 121 = .ok (.ifCond .eq 45, 3) := by decide +kernel
theorem d_Mo_tellLink_124 : decode prog_13_method_30_code 124 = .ok (.aload_n 0, 1) := by decide +kernel
theorem d_Mo_tellLink_125 : decode prog_13_method_30_code 125 = .ok (.getfield 58, 3) := by decide +kernel
theorem d_Mo_tellLink_128 : decode prog_13_method_30_code 128 = .ok (.bipush 49, 2) := by decide +kernel
theorem d_Mo_tellLink_130 : decode prog_13_method_30_code 130 = .ok (.aload_n 0, 1) := by decide +kernel
theorem d_Mo_tellLink_131 : decode prog_13_method_30_code 131 = .ok (.getfield 173, 3) := by decide +kernel
theorem d_Mo_tellLink_134 : decode prog_13_method_30_code 134 = .ok (.imul, 1) := by decide +kernel
theorem d_Mo_tellLink_135 : decode prog_13_method_30_code 135 = .ok (.bipush 7, 2) := by decide +kernel
theorem d_Mo_tellLink_137 : decode prog_13_method_30_code 137 = .ok (.iload_n 1, 1) := by decide +kernel
theorem d_Mo_tellLink_138 : decode prog_13_method_30_code 138 = .ok (.imul, 1) := by decide +kernel
theorem d_Mo_tellLink_139 : decode prog_13_method_30_code 139 = .ok (.iadd, 1) := by decide +kernel
theorem d_Mo_tellLink_140 : decode prog_13_method_30_code 140 = .ok (.iload_n 3, 1) := by decide +kernel
theorem d_Mo_tellLink_141 : decode prog_13_method_30_code 141 = .ok (.iadd, 1) := by decide +kernel
theorem d_Mo_tellLink_142 : decode prog_13_method_30_code 142 = .ok (.iload 5, 2) := by decide +kernel
theorem d_Mo_tellLink_144 : decode prog_13_method_30_code 144 = .ok (.iastore, 1) := by decide +kernel
theorem d_Mo_tellLink_145 : decode prog_13_method_30_code 145 = .ok (.aload_n 0, 1) := by decide +kernel
theorem d_Mo_tellLink_146 : decode prog_13_method_30_code 146 = .ok (.getfield 58, 3) := by decide +kernel
theorem d_Mo_tellLink_149 : decode prog_13_method_30_code 149 = .ok (.bipush 49, 2) := by decide +kernel
theorem d_Mo_tellLink_151 : decode prog_13_method_30_code 151 = .ok (.aload_n 0, 1) := by decide +kernel
theorem d_Mo_tellLink_152 : decode prog_13_method_30_code 152 = .ok (.getfield 173, 3) := by decide +kernel
theorem d_Mo_tellLink_155 : decode prog_13_method_30_code 155 = .ok (.imul, 1) := by decide +kernel
theorem d_Mo_tellLink_156 : decode prog_13_method_30_code 156 = .ok (.bipush 7, 2) := by decide +kernel
theorem d_Mo_tellLink_158 : decode prog_13_method_30_code 158 = .ok (.iload_n 3, 1) := by decide +kernel
theorem d_Mo_tellLink_159 : decode prog_13_method_30_code 159 = .ok (.imul, 1) := by decide +kernel
theorem d_Mo_tellLink_160 : decode prog_13_method_30_code 160 = .ok (.iadd, 1) := by decide +kernel
theorem d_Mo_tellLink_161 : decode prog_13_method_30_code 161 = .ok (.iload_n 1, 1) := by decide +kernel
theorem d_Mo_tellLink_162 : decode prog_13_method_30_code 162 = .ok (.iadd, 1) := by decide +kernel
theorem d_Mo_tellLink_163 : decode prog_13_method_30_code 163 = .ok (.iload 5, 2) := by decide +kernel
theorem d_Mo_tellLink_165 : decode prog_13_method_30_code 165 = .ok (.iastore, 1) := by decide +kernel
theorem d_Mo_tellLink_166 : decode prog_13_method_30_code 166 = .ok (.aload_n 0, 1) := by decide +kernel
theorem d_Mo_tellLink_167 : decode prog_13_method_30_code 167 = .ok (.getfield 43, 3) := by decide +kernel
theorem d_Mo_tellLink_170 : decode prog_13_method_30_code 170 = .ok (.aload_n 0, 1) := by decide +kernel
theorem d_Mo_tellLink_171 : decode prog_13_method_30_code 171 = .ok (.getfield 173, 3) := by decide +kernel
theorem d_Mo_tellLink_174 : decode prog_13_method_30_code 174 = .ok (.dup2, 1) := by decide +kernel
theorem d_Mo_tellLink_175 : decode prog_13_method_30_code 175 = .ok (.iaload, 1) := by decide +kernel
theorem d_Mo_tellLink_176 : decode prog_13_method_30_code 176 = .ok (.iconst 1, 1) := by decide +kernel
theorem d_Mo_tellLink_177 : decode prog_13_method_30_code 177 = .ok (.iadd, 1) := by decide +kernel
theorem d_Mo_tellLink_178 : decode prog_13_method_30_code 178 = .ok (.iastore, 1) := by decide +kernel
theorem d_Mo_tellLink_179 : decode prog_13_method_30_code 179 = .ok (.aload_n 0, 1) := by decide +kernel
theorem d_Mo_tellLink_180 : decode prog_13_method_30_code 180 = .ok (.getfield 55, 3) := by decide +kernel
theorem d_Mo_tellLink_183 : decode prog_13_method_30_code 183 = .ok (.bipush 16, 2) := by decide +kernel
theorem d_Mo_tellLink_185 : decode prog_13_method_30_code 185 = .ok (.aload_n 0, 1) := by decide +kernel
theorem d_Mo_tellLink_186 : decode prog_13_method_30_code 186 = .ok (.getfield 173, 3) := by decide +kernel
theorem d_Mo_tellLink_189 : decode prog_13_method_30_code 189 = .ok (.imul, 1) := by decide +kernel
theorem d_Mo_tellLink_190 : decode prog_13_method_30_code 190 = .ok (.iload 5, 2) := by decide +kernel
theorem d_Mo_tellLink_192 : decode prog_13_method_30_code 192 = .ok (.iadd, 1) := by decide +kernel
theorem d_Mo_tellLink_193 : decode prog_13_method_30_code 193 = .ok (.aload_n 0, 1) := by decide +kernel
theorem d_Mo_tellLink_194 : decode prog_13_method_30_code 194 = .ok (.iconst 1, 1) := by decide +kernel
theorem d_Mo_tellLink_195 : decode prog_13_method_30_code 195 = .ok (.bipush 9, 2) := by decide +kernel
theorem d_Mo_tellLink_197 : decode prog_13_method_30_code 197 = .ok (.invokevirtual 205, 3) := by decide +kernel
theorem d_Mo_tellLink_200 : decode prog_13_method_30_code 200 = .ok (.iastore, 1) := by decide +kernel
theorem d_Mo_tellLink_201 : decode prog_13_method_30_code 201 = .ok (.return_, 1) := by decide +kernel
def wp_Mo_tellLink_b166   (Q : sx_M → sx_L → Prop) (v5 : Int32) (σ : sx_M) (τ : sx_L) : Prop := vp_in (σ 50 0 0 18) 2 ∧ (vp_in (σ 50 0 0 18) 2 ∧ (∀ σ3 : sx_M, σ3 = sx_u σ 59 0 0 (σ 50 0 0 18).toNatClampNeg ((σ 59 0 0 (σ 50 0 0 18).toNatClampNeg) + 1) → (wp_Mo_bounded (1 : Int32) (9 : Int32) σ3 τ (fun r4 σ4 τ4 => vp_in ((16 * (σ3 50 0 0 18)) + v5) 32 ∧ (∀ σ6 : sx_M, σ6 = sx_u σ4 63 0 0 ((16 * (σ3 50 0 0 18)) + v5).toNatClampNeg r4 → (Q σ6 τ4))))))
def wp_Mo_tellLink_b76   (Q : sx_M → sx_L → Prop) (v1 : Int32) (v3 : Int32) (v4 : Int32) (σ : sx_M) (τ : sx_L) : Prop := vp_in (σ 50 0 0 18) 2 ∧ (vp_in ((16 * (σ 50 0 0 18)) + (σ 59 0 0 (σ 50 0 0 18).toNatClampNeg)) 32 ∧ (∀ σ9 : sx_M, σ9 = sx_u σ 61 0 0 ((16 * (σ 50 0 0 18)) + (σ 59 0 0 (σ 50 0 0 18).toNatClampNeg)).toNatClampNeg v1 → (vp_in ((16 * (σ9 50 0 0 18)) + (σ 59 0 0 (σ 50 0 0 18).toNatClampNeg)) 32 ∧ (∀ σ11 : sx_M, σ11 = sx_u σ9 62 0 0 ((16 * (σ9 50 0 0 18)) + (σ 59 0 0 (σ 50 0 0 18).toNatClampNeg)).toNatClampNeg v3 → (if v4 = 0 then (wp_Mo_tellLink_b166 Q (σ 59 0 0 (σ 50 0 0 18).toNatClampNeg) σ11 τ) else (vp_in (((49 * (σ11 50 0 0 18)) + (7 * v1)) + v3) 98 ∧ (∀ σ14 : sx_M, σ14 = sx_u σ11 64 0 0 (((49 * (σ11 50 0 0 18)) + (7 * v1)) + v3).toNatClampNeg (σ 59 0 0 (σ 50 0 0 18).toNatClampNeg) → (vp_in (((49 * (σ14 50 0 0 18)) + (7 * v3)) + v1) 98 ∧ (∀ σ16 : sx_M, σ16 = sx_u σ14 64 0 0 (((49 * (σ14 50 0 0 18)) + (7 * v3)) + v1).toNatClampNeg (σ 59 0 0 (σ 50 0 0 18).toNatClampNeg) → (wp_Mo_tellLink_b166 Q (σ 59 0 0 (σ 50 0 0 18).toNatClampNeg) σ16 τ))))))))))
def wp_Mo_tellLink_b70   (Q : sx_M → sx_L → Prop) (v1 : Int32) (v2 : Int32) (v3 : Int32) (v4 : Int32) (σ : sx_M) (τ : sx_L) : Prop := wp_Mo_wrong (3 : Int32) v2 σ τ (fun σ17 τ17 => wp_Mo_tellLink_b76 Q v1 v3 v4 σ17 τ17)
def wp_Mo_tellLink_b36   (Q : sx_M → sx_L → Prop) (v1 : Int32) (v2 : Int32) (v3 : Int32) (w0 : Int32) (σ : sx_M) (τ : sx_L) : Prop := if w0 = 0 then (wp_Mo_tellLink_b76 Q v1 v3 w0 σ τ) else (if v1 = v3 then (wp_Mo_tellLink_b70 Q v1 v2 v3 w0 σ τ) else (vp_in (((49 * (σ 50 0 0 18)) + (7 * v1)) + v3) 98 ∧ (if σ 64 0 0 (((49 * (σ 50 0 0 18)) + (7 * v1)) + v3).toNatClampNeg < 0 then (wp_Mo_tellLink_b76 Q v1 v3 w0 σ τ) else (wp_Mo_tellLink_b70 Q v1 v2 v3 w0 σ τ))))
def wp_Mo_tellLink_b35   (Q : sx_M → sx_L → Prop) (v1 : Int32) (v2 : Int32) (v3 : Int32) (σ : sx_M) (τ : sx_L) : Prop := wp_Mo_tellLink_b36 Q v1 v2 v3 0 σ τ
def wp_Mo_tellLink  (σ : sx_M) (τ : sx_L) (Q : sx_M → sx_L → Prop) : Prop := wp_Mo_postTold σ τ (fun r22 σ22 τ22 => wp_Mo_postTold σ22 τ22 (fun r23 σ23 τ23 => if σ23 50 0 0 12 ≤ 0 then (if r22 < 0 then (wp_Mo_tellLink_b35 Q r22 (σ22 50 0 0 11) r23 σ23 τ23) else (if r23 < 0 then (wp_Mo_tellLink_b35 Q r22 (σ22 50 0 0 11) r23 σ23 τ23) else (wp_Mo_tellLink_b36 Q r22 (σ22 50 0 0 11) r23 1 σ23 τ23))) else (Q σ23 τ23)))
abbrev rm_Mo_tellLink : Room := { frames := 3, cells := 0, slots := 0, locals := 64 }
set_option maxRecDepth 100000 in
set_option maxHeartbeats 4000000 in
theorem g_Mo_tellLink_b166 {l : Launch} {K : sx_K} {X : sx_T}   {Q : sx_M → sx_L → Prop} (hX : sx_C X K prog_13_method_30_code 6 "SensorTreeModel" none rm_Mo_tellLink l) (hK : kx_F K) (hE : sx_E X K (sx_Qv K Q))  (v5 : Int32) (σ : sx_M) (τ : sx_L)  (h : wp_Mo_tellLink_b166 Q  v5 σ τ) : sx_G X K 6 166 [(0, .ref (K.2.2.1 50 0 0)), (5, .int v5)] [] (sx_H K σ τ) := by
  unfold wp_Mo_tellLink_b166 at h
  refine sx_aload_n (pc2 := 167) hX 0 d_Mo_tellLink_166 rfl rfl rfl ?_
  refine fg_Mo_43 (pc2 := 170) hX (kr_50 hK) d_Mo_tellLink_167 rfl ?_
  refine sx_aload_n (pc2 := 171) hX 0 d_Mo_tellLink_170 rfl rfl rfl ?_
  refine fg_Mo_173 (pc2 := 174) hX (kr_50 hK) d_Mo_tellLink_171 rfl ?_
  refine sx_dup2 (pc2 := 175) hX d_Mo_tellLink_174 rfl rfl rfl ?_
  obtain ⟨hc1, h⟩ := h
  refine sx_iald (pc2 := 176) hX (kr_59 hK) rfl hc1 d_Mo_tellLink_175 rfl ?_
  refine sx_iconst (v := 1) (pc2 := 177) hX d_Mo_tellLink_176 (by decide) rfl ?_
  refine sx_iadd (pc2 := 178) hX d_Mo_tellLink_177 rfl ?_
  obtain ⟨hc2, h⟩ := h
  refine sx_iast (pc2 := 179) hX (kr_59 hK) (fun _ => rfl) hc2 d_Mo_tellLink_178 rfl ?_
  refine sx_nm (fun σ3 e3 => ?_)
  replace h := h σ3 e3
  refine sx_aload_n (pc2 := 180) hX 0 d_Mo_tellLink_179 rfl rfl rfl ?_
  refine fg_Mo_55 (pc2 := 183) hX (kr_50 hK) d_Mo_tellLink_180 rfl ?_
  refine sx_bipush (v := 16) (pc2 := 185) hX d_Mo_tellLink_183 (by decide) rfl ?_
  refine sx_aload_n (pc2 := 186) hX 0 d_Mo_tellLink_185 rfl rfl rfl ?_
  refine fg_Mo_173 (pc2 := 189) hX (kr_50 hK) d_Mo_tellLink_186 rfl ?_
  refine sx_imul (pc2 := 190) hX d_Mo_tellLink_189 rfl ?_
  refine sx_iload (pc2 := 192) hX 1 d_Mo_tellLink_190 rfl rfl ?_
  refine sx_iadd (pc2 := 193) hX d_Mo_tellLink_192 rfl ?_
  refine sx_aload_n (pc2 := 194) hX 0 d_Mo_tellLink_193 rfl rfl rfl ?_
  refine sx_iconst (v := 1) (pc2 := 195) hX d_Mo_tellLink_194 (by decide) rfl ?_
  refine sx_bipush (v := 9) (pc2 := 197) hX d_Mo_tellLink_195 (by decide) rfl ?_
  refine cl_Mo_205 (pc2 := 200) hX hK h  ⟨Nat.le_of_ble_eq_true rfl, Nat.le_of_ble_eq_true rfl⟩ (Nat.le_of_ble_eq_true rfl) d_Mo_tellLink_197 rfl (fun r4 σ4 τ4 h => ?_)
  obtain ⟨hc5, h⟩ := h
  refine sx_iast (pc2 := 201) hX (kr_63 hK) (fun _ => rfl) hc5 d_Mo_tellLink_200 rfl ?_
  refine sx_nm (fun σ6 e6 => ?_)
  replace h := h σ6 e6
  exact sx_vret hX hE h d_Mo_tellLink_201
set_option maxRecDepth 100000 in
set_option maxHeartbeats 4000000 in
theorem g_Mo_tellLink_b76 {l : Launch} {K : sx_K} {X : sx_T}   {Q : sx_M → sx_L → Prop} (hX : sx_C X K prog_13_method_30_code 6 "SensorTreeModel" none rm_Mo_tellLink l) (hK : kx_F K) (hE : sx_E X K (sx_Qv K Q))  (v1 : Int32) (v3 : Int32) (v4 : Int32) (σ : sx_M) (τ : sx_L)  (h : wp_Mo_tellLink_b76 Q  v1 v3 v4 σ τ) : sx_G X K 6 76 [(0, .ref (K.2.2.1 50 0 0)), (1, .int v1), (3, .int v3), (4, .int v4)] [] (sx_H K σ τ) := by
  unfold wp_Mo_tellLink_b76 at h
  refine sx_aload_n (pc2 := 77) hX 0 d_Mo_tellLink_76 rfl rfl rfl ?_
  refine fg_Mo_43 (pc2 := 80) hX (kr_50 hK) d_Mo_tellLink_77 rfl ?_
  refine sx_aload_n (pc2 := 81) hX 0 d_Mo_tellLink_80 rfl rfl rfl ?_
  refine fg_Mo_173 (pc2 := 84) hX (kr_50 hK) d_Mo_tellLink_81 rfl ?_
  obtain ⟨hc7, h⟩ := h
  refine sx_iald (pc2 := 85) hX (kr_59 hK) rfl hc7 d_Mo_tellLink_84 rfl ?_
  refine sx_istore (pc2 := 87) hX _ [(0, .ref (K.2.2.1 50 0 0)), (1, .int v1), (3, .int v3), (4, .int v4), (5, .int (σ 59 0 0 (σ 50 0 0 18).toNatClampNeg))] [1, 2, 3, 4, 0] d_Mo_tellLink_85 (by decide) rfl rfl rfl ?_
  refine sx_aload_n (pc2 := 88) hX 0 d_Mo_tellLink_87 rfl rfl rfl ?_
  refine fg_Mo_49 (pc2 := 91) hX (kr_50 hK) d_Mo_tellLink_88 rfl ?_
  refine sx_bipush (v := 16) (pc2 := 93) hX d_Mo_tellLink_91 (by decide) rfl ?_
  refine sx_aload_n (pc2 := 94) hX 0 d_Mo_tellLink_93 rfl rfl rfl ?_
  refine fg_Mo_173 (pc2 := 97) hX (kr_50 hK) d_Mo_tellLink_94 rfl ?_
  refine sx_imul (pc2 := 98) hX d_Mo_tellLink_97 rfl ?_
  refine sx_iload (pc2 := 100) hX 4 d_Mo_tellLink_98 rfl rfl ?_
  refine sx_iadd (pc2 := 101) hX d_Mo_tellLink_100 rfl ?_
  refine sx_iload_n (pc2 := 102) hX 1 d_Mo_tellLink_101 rfl rfl rfl ?_
  obtain ⟨hc8, h⟩ := h
  refine sx_iast (pc2 := 103) hX (kr_61 hK) (fun _ => rfl) hc8 d_Mo_tellLink_102 rfl ?_
  refine sx_nm (fun σ9 e9 => ?_)
  replace h := h σ9 e9
  refine sx_aload_n (pc2 := 104) hX 0 d_Mo_tellLink_103 rfl rfl rfl ?_
  refine fg_Mo_52 (pc2 := 107) hX (kr_50 hK) d_Mo_tellLink_104 rfl ?_
  refine sx_bipush (v := 16) (pc2 := 109) hX d_Mo_tellLink_107 (by decide) rfl ?_
  refine sx_aload_n (pc2 := 110) hX 0 d_Mo_tellLink_109 rfl rfl rfl ?_
  refine fg_Mo_173 (pc2 := 113) hX (kr_50 hK) d_Mo_tellLink_110 rfl ?_
  refine sx_imul (pc2 := 114) hX d_Mo_tellLink_113 rfl ?_
  refine sx_iload (pc2 := 116) hX 4 d_Mo_tellLink_114 rfl rfl ?_
  refine sx_iadd (pc2 := 117) hX d_Mo_tellLink_116 rfl ?_
  refine sx_iload_n (pc2 := 118) hX 2 d_Mo_tellLink_117 rfl rfl rfl ?_
  obtain ⟨hc10, h⟩ := h
  refine sx_iast (pc2 := 119) hX (kr_62 hK) (fun _ => rfl) hc10 d_Mo_tellLink_118 rfl ?_
  refine sx_nm (fun σ11 e11 => ?_)
  replace h := h σ11 e11
  refine sx_iload (pc2 := 121) hX 3 d_Mo_tellLink_119 rfl rfl ?_
  refine sx_if_eq (tgt := 166) (pc2 := 124) hX d_Mo_tellLink_121 (by decide) rfl (fun hc12 => ?_) (fun hc12 => ?_)
  · replace h := sx_t h hc12
    refine sx_sub [(0, .ref (K.2.2.1 50 0 0)), (5, .int (σ 59 0 0 (σ 50 0 0 18).toNatClampNeg))] [0, 4] rfl ?_
    exact g_Mo_tellLink_b166 hX hK hE   (σ 59 0 0 (σ 50 0 0 18).toNatClampNeg) _ _ h
  · replace h := sx_f h hc12
    refine sx_aload_n (pc2 := 125) hX 0 d_Mo_tellLink_124 rfl rfl rfl ?_
    refine fg_Mo_58 (pc2 := 128) hX (kr_50 hK) d_Mo_tellLink_125 rfl ?_
    refine sx_bipush (v := 49) (pc2 := 130) hX d_Mo_tellLink_128 (by decide) rfl ?_
    refine sx_aload_n (pc2 := 131) hX 0 d_Mo_tellLink_130 rfl rfl rfl ?_
    refine fg_Mo_173 (pc2 := 134) hX (kr_50 hK) d_Mo_tellLink_131 rfl ?_
    refine sx_imul (pc2 := 135) hX d_Mo_tellLink_134 rfl ?_
    refine sx_bipush (v := 7) (pc2 := 137) hX d_Mo_tellLink_135 (by decide) rfl ?_
    refine sx_iload_n (pc2 := 138) hX 1 d_Mo_tellLink_137 rfl rfl rfl ?_
    refine sx_imul (pc2 := 139) hX d_Mo_tellLink_138 rfl ?_
    refine sx_iadd (pc2 := 140) hX d_Mo_tellLink_139 rfl ?_
    refine sx_iload_n (pc2 := 141) hX 2 d_Mo_tellLink_140 rfl rfl rfl ?_
    refine sx_iadd (pc2 := 142) hX d_Mo_tellLink_141 rfl ?_
    refine sx_iload (pc2 := 144) hX 4 d_Mo_tellLink_142 rfl rfl ?_
    obtain ⟨hc13, h⟩ := h
    refine sx_iast (pc2 := 145) hX (kr_64 hK) (fun _ => rfl) hc13 d_Mo_tellLink_144 rfl ?_
    refine sx_nm (fun σ14 e14 => ?_)
    replace h := h σ14 e14
    refine sx_aload_n (pc2 := 146) hX 0 d_Mo_tellLink_145 rfl rfl rfl ?_
    refine fg_Mo_58 (pc2 := 149) hX (kr_50 hK) d_Mo_tellLink_146 rfl ?_
    refine sx_bipush (v := 49) (pc2 := 151) hX d_Mo_tellLink_149 (by decide) rfl ?_
    refine sx_aload_n (pc2 := 152) hX 0 d_Mo_tellLink_151 rfl rfl rfl ?_
    refine fg_Mo_173 (pc2 := 155) hX (kr_50 hK) d_Mo_tellLink_152 rfl ?_
    refine sx_imul (pc2 := 156) hX d_Mo_tellLink_155 rfl ?_
    refine sx_bipush (v := 7) (pc2 := 158) hX d_Mo_tellLink_156 (by decide) rfl ?_
    refine sx_iload_n (pc2 := 159) hX 2 d_Mo_tellLink_158 rfl rfl rfl ?_
    refine sx_imul (pc2 := 160) hX d_Mo_tellLink_159 rfl ?_
    refine sx_iadd (pc2 := 161) hX d_Mo_tellLink_160 rfl ?_
    refine sx_iload_n (pc2 := 162) hX 1 d_Mo_tellLink_161 rfl rfl rfl ?_
    refine sx_iadd (pc2 := 163) hX d_Mo_tellLink_162 rfl ?_
    refine sx_iload (pc2 := 165) hX 4 d_Mo_tellLink_163 rfl rfl ?_
    obtain ⟨hc15, h⟩ := h
    refine sx_iast (pc2 := 166) hX (kr_64 hK) (fun _ => rfl) hc15 d_Mo_tellLink_165 rfl ?_
    refine sx_nm (fun σ16 e16 => ?_)
    replace h := h σ16 e16
    refine sx_sub [(0, .ref (K.2.2.1 50 0 0)), (5, .int (σ 59 0 0 (σ 50 0 0 18).toNatClampNeg))] [0, 4] rfl ?_
    exact g_Mo_tellLink_b166 hX hK hE   (σ 59 0 0 (σ 50 0 0 18).toNatClampNeg) _ _ h
set_option maxRecDepth 100000 in
set_option maxHeartbeats 4000000 in
theorem g_Mo_tellLink_b70 {l : Launch} {K : sx_K} {X : sx_T}   {Q : sx_M → sx_L → Prop} (hX : sx_C X K prog_13_method_30_code 6 "SensorTreeModel" none rm_Mo_tellLink l) (hK : kx_F K) (hE : sx_E X K (sx_Qv K Q))  (v1 : Int32) (v2 : Int32) (v3 : Int32) (v4 : Int32) (σ : sx_M) (τ : sx_L)  (h : wp_Mo_tellLink_b70 Q  v1 v2 v3 v4 σ τ) : sx_G X K 6 70 [(0, .ref (K.2.2.1 50 0 0)), (1, .int v1), (2, .int v2), (3, .int v3), (4, .int v4)] [] (sx_H K σ τ) := by
  unfold wp_Mo_tellLink_b70 at h
  refine sx_aload_n (pc2 := 71) hX 0 d_Mo_tellLink_70 rfl rfl rfl ?_
  refine sx_iconst (v := 3) (pc2 := 72) hX d_Mo_tellLink_71 (by decide) rfl ?_
  refine sx_iload_n (pc2 := 73) hX 2 d_Mo_tellLink_72 rfl rfl rfl ?_
  refine cl_Mo_182 (pc2 := 76) hX hK h  ⟨Nat.le_of_ble_eq_true rfl, Nat.le_of_ble_eq_true rfl⟩ (Nat.le_of_ble_eq_true rfl) d_Mo_tellLink_73 rfl (fun σ17 τ17 h => ?_)
  refine sx_sub [(0, .ref (K.2.2.1 50 0 0)), (1, .int v1), (3, .int v3), (4, .int v4)] [0, 1, 3, 4] rfl ?_
  exact g_Mo_tellLink_b76 hX hK hE   v1 v3 v4 _ _ h
set_option maxRecDepth 100000 in
set_option maxHeartbeats 4000000 in
theorem g_Mo_tellLink_b36 {l : Launch} {K : sx_K} {X : sx_T}   {Q : sx_M → sx_L → Prop} (hX : sx_C X K prog_13_method_30_code 6 "SensorTreeModel" none rm_Mo_tellLink l) (hK : kx_F K) (hE : sx_E X K (sx_Qv K Q))  (v1 : Int32) (v2 : Int32) (v3 : Int32) (w0 : Int32) (σ : sx_M) (τ : sx_L)  (h : wp_Mo_tellLink_b36 Q  v1 v2 v3 w0 σ τ) : sx_G X K 6 36 [(0, .ref (K.2.2.1 50 0 0)), (1, .int v1), (2, .int v2), (3, .int v3)] [.int w0] (sx_H K σ τ) := by
  unfold wp_Mo_tellLink_b36 at h
  refine sx_istore (pc2 := 38) hX _ [(0, .ref (K.2.2.1 50 0 0)), (1, .int v1), (2, .int v2), (3, .int v3), (4, .int w0)] [1, 2, 3, 4, 0] d_Mo_tellLink_36 (by decide) rfl rfl rfl ?_
  refine sx_iload (pc2 := 40) hX 4 d_Mo_tellLink_38 rfl rfl ?_
  refine sx_if_eq (tgt := 76) (pc2 := 43) hX d_Mo_tellLink_40 (by decide) rfl (fun hc18 => ?_) (fun hc18 => ?_)
  · replace h := sx_t h hc18
    refine sx_sub [(0, .ref (K.2.2.1 50 0 0)), (1, .int v1), (3, .int v3), (4, .int w0)] [0, 1, 3, 4] rfl ?_
    exact g_Mo_tellLink_b76 hX hK hE   v1 v3 w0 _ _ h
  · replace h := sx_f h hc18
    refine sx_iload_n (pc2 := 44) hX 1 d_Mo_tellLink_43 rfl rfl rfl ?_
    refine sx_iload_n (pc2 := 45) hX 3 d_Mo_tellLink_44 rfl rfl rfl ?_
    refine sx_icmp_eq (tgt := 70) (pc2 := 48) hX d_Mo_tellLink_45 (by decide) rfl (fun hc19 => ?_) (fun hc19 => ?_)
    · replace h := sx_t h hc19
      exact g_Mo_tellLink_b70 hX hK hE   v1 v2 v3 w0 _ _ h
    · replace h := sx_f h hc19
      refine sx_aload_n (pc2 := 49) hX 0 d_Mo_tellLink_48 rfl rfl rfl ?_
      refine fg_Mo_58 (pc2 := 52) hX (kr_50 hK) d_Mo_tellLink_49 rfl ?_
      refine sx_bipush (v := 49) (pc2 := 54) hX d_Mo_tellLink_52 (by decide) rfl ?_
      refine sx_aload_n (pc2 := 55) hX 0 d_Mo_tellLink_54 rfl rfl rfl ?_
      refine fg_Mo_173 (pc2 := 58) hX (kr_50 hK) d_Mo_tellLink_55 rfl ?_
      refine sx_imul (pc2 := 59) hX d_Mo_tellLink_58 rfl ?_
      refine sx_bipush (v := 7) (pc2 := 61) hX d_Mo_tellLink_59 (by decide) rfl ?_
      refine sx_iload_n (pc2 := 62) hX 1 d_Mo_tellLink_61 rfl rfl rfl ?_
      refine sx_imul (pc2 := 63) hX d_Mo_tellLink_62 rfl ?_
      refine sx_iadd (pc2 := 64) hX d_Mo_tellLink_63 rfl ?_
      refine sx_iload_n (pc2 := 65) hX 3 d_Mo_tellLink_64 rfl rfl rfl ?_
      refine sx_iadd (pc2 := 66) hX d_Mo_tellLink_65 rfl ?_
      obtain ⟨hc20, h⟩ := h
      refine sx_iald (pc2 := 67) hX (kr_64 hK) rfl hc20 d_Mo_tellLink_66 rfl ?_
      refine sx_if_lt (tgt := 76) (pc2 := 70) hX d_Mo_tellLink_67 (by decide) rfl (fun hc21 => ?_) (fun hc21 => ?_)
      · replace h := sx_t h hc21
        refine sx_sub [(0, .ref (K.2.2.1 50 0 0)), (1, .int v1), (3, .int v3), (4, .int w0)] [0, 1, 3, 4] rfl ?_
        exact g_Mo_tellLink_b76 hX hK hE   v1 v3 w0 _ _ h
      · replace h := sx_f h hc21
        exact g_Mo_tellLink_b70 hX hK hE   v1 v2 v3 w0 _ _ h
set_option maxRecDepth 100000 in
set_option maxHeartbeats 4000000 in
theorem g_Mo_tellLink_b35 {l : Launch} {K : sx_K} {X : sx_T}   {Q : sx_M → sx_L → Prop} (hX : sx_C X K prog_13_method_30_code 6 "SensorTreeModel" none rm_Mo_tellLink l) (hK : kx_F K) (hE : sx_E X K (sx_Qv K Q))  (v1 : Int32) (v2 : Int32) (v3 : Int32) (σ : sx_M) (τ : sx_L)  (h : wp_Mo_tellLink_b35 Q  v1 v2 v3 σ τ) : sx_G X K 6 35 [(0, .ref (K.2.2.1 50 0 0)), (1, .int v1), (2, .int v2), (3, .int v3)] [] (sx_H K σ τ) := by
  unfold wp_Mo_tellLink_b35 at h
  refine sx_iconst (v := 0) (pc2 := 36) hX d_Mo_tellLink_35 (by decide) rfl ?_
  exact g_Mo_tellLink_b36 hX hK hE   v1 v2 v3 0 _ _ h
set_option maxRecDepth 100000 in
set_option maxHeartbeats 4000000 in
theorem c_Mo_tellLink {l : Launch} {K : sx_K} (hK : kx_F K)  (σ : sx_M) (τ : sx_L) (Q : sx_M → sx_L → Prop)  (h : wp_Mo_tellLink σ τ Q) : Met l y_Mo_tellLink (sx_wd y_Mo_tellLink prog_13_method_30_code 6 none) rm_Mo_tellLink (sx_Pc K [.ref (K.2.2.1 50 0 0)] σ τ) (sx_Qv K Q) 0 0 (sx_A K) := by
  refine sx_met (by decide) (Nat.le_of_ble_eq_true rfl) (fun X hX hE => ?_)
  replace hX : sx_C X K prog_13_method_30_code 6 "SensorTreeModel" none rm_Mo_tellLink l := hX
  show sx_G X K 6 0 [(0, .ref (K.2.2.1 50 0 0))] [] (sx_H K σ τ)
  unfold wp_Mo_tellLink at h
  refine sx_aload_n (pc2 := 1) hX 0 d_Mo_tellLink_0 rfl rfl rfl ?_
  refine cl_Mo_212 (pc2 := 4) hX hK h  ⟨Nat.le_of_ble_eq_true rfl, Nat.le_of_ble_eq_true rfl⟩ (Nat.le_of_ble_eq_true rfl) d_Mo_tellLink_1 rfl (fun r22 σ22 τ22 h => ?_)
  refine sx_istore_n (pc2 := 5) hX _ [(0, .ref (K.2.2.1 50 0 0)), (1, .int r22)] [1, 0] d_Mo_tellLink_4 rfl (by decide) rfl rfl rfl ?_
  refine sx_aload_n (pc2 := 6) hX 0 d_Mo_tellLink_5 rfl rfl rfl ?_
  refine fg_Mo_146 (pc2 := 9) hX (kr_50 hK) d_Mo_tellLink_6 rfl ?_
  refine sx_istore_n (pc2 := 10) hX _ [(0, .ref (K.2.2.1 50 0 0)), (1, .int r22), (2, .int (σ22 50 0 0 11))] [1, 2, 0] d_Mo_tellLink_9 rfl (by decide) rfl rfl rfl ?_
  refine sx_aload_n (pc2 := 11) hX 0 d_Mo_tellLink_10 rfl rfl rfl ?_
  refine cl_Mo_212 (pc2 := 14) hX hK h  ⟨Nat.le_of_ble_eq_true rfl, Nat.le_of_ble_eq_true rfl⟩ (Nat.le_of_ble_eq_true rfl) d_Mo_tellLink_11 rfl (fun r23 σ23 τ23 h => ?_)
  refine sx_istore_n (pc2 := 15) hX _ [(0, .ref (K.2.2.1 50 0 0)), (1, .int r22), (2, .int (σ22 50 0 0 11)), (3, .int r23)] [1, 2, 3, 0] d_Mo_tellLink_14 rfl (by decide) rfl rfl rfl ?_
  refine sx_aload_n (pc2 := 16) hX 0 d_Mo_tellLink_15 rfl rfl rfl ?_
  refine fg_Mo_143 (pc2 := 19) hX (kr_50 hK) d_Mo_tellLink_16 rfl ?_
  refine sx_if_le (tgt := 23) (pc2 := 22) hX d_Mo_tellLink_19 (by decide) rfl (fun hc24 => ?_) (fun hc24 => ?_)
  · replace h := sx_t h hc24
    refine sx_iload_n (pc2 := 24) hX 1 d_Mo_tellLink_23 rfl rfl rfl ?_
    refine sx_if_lt (tgt := 35) (pc2 := 27) hX d_Mo_tellLink_24 (by decide) rfl (fun hc25 => ?_) (fun hc25 => ?_)
    · replace h := sx_t h hc25
      exact g_Mo_tellLink_b35 hX hK hE   r22 (σ22 50 0 0 11) r23 _ _ h
    · replace h := sx_f h hc25
      refine sx_iload_n (pc2 := 28) hX 3 d_Mo_tellLink_27 rfl rfl rfl ?_
      refine sx_if_lt (tgt := 35) (pc2 := 31) hX d_Mo_tellLink_28 (by decide) rfl (fun hc26 => ?_) (fun hc26 => ?_)
      · replace h := sx_t h hc26
        exact g_Mo_tellLink_b35 hX hK hE   r22 (σ22 50 0 0 11) r23 _ _ h
      · replace h := sx_f h hc26
        refine sx_iconst (v := 1) (pc2 := 32) hX d_Mo_tellLink_31 (by decide) rfl ?_
        refine sx_goto (tgt := 36) hX d_Mo_tellLink_32 (by decide) ?_
        exact g_Mo_tellLink_b36 hX hK hE   r22 (σ22 50 0 0 11) r23 1 _ _ h
  · replace h := sx_f h hc24
    exact sx_vret hX hE h d_Mo_tellLink_22
theorem cl_Mo_196 {X : sx_T} {K : sx_K} {cc : ByteArray} {nL : Nat} {ret : Option FieldType} {rm : Room} {l : Launch} {pc pc2 : Nat} {lv : List (Nat × Value)} {st : List Value} {σ : sx_M} {τ : sx_L}  {Q : sx_M → sx_L → Prop} (hX : sx_C X K cc nL "SensorTreeModel" ret rm l) (hK : kx_F K) (h : wp_Mo_tellLink  σ τ Q)  (hR : rm_Mo_tellLink.frames + 1 ≤ rm.frames ∧ 8 + (6 + 11) + rm_Mo_tellLink.locals ≤ rm.locals) (hst : (st.map fun v => v.category).sum ≤ 8) (hd : decode cc pc = .ok (.invokevirtual 196, 3)) (hpc : pc + 3 = pc2) (kk : ∀ (σ2 : sx_M) (τ2 : sx_L), Q σ2 τ2 → sx_G X K nL pc2 lv (st) (sx_H K σ2 τ2)) : sx_G X K nL pc lv (.ref (K.2.2.1 50 0 0) :: st) (sx_H K σ τ) :=
  sx_callVv (Q := Q) (As := []) hX (c_Mo_tellLink hK  σ τ Q  h) (kr_50 hK) rfl rfl lk_418 ls_58 hy_Mo_tellLink lk_416 lk_364 lk_417 ⟨rfl, rfl⟩ hR hst rfl hd hpc kk
def y_Mo_tellOne : MethodName := ⟨"SensorTreeModel", "tellOne", "()V"⟩
theorem hy_Mo_tellOne : y_Mo_tellOne.cls ≠ "java/lang/invoke/MethodHandle" ∧ y_Mo_tellOne.cls ≠ "java/lang/invoke/VarHandle" ∧ (parseMethodDescriptor y_Mo_tellOne.desc).map (fun d => d.parameters.length) = some 0 := by decide +kernel
theorem d_Mo_tellOne_0 : decode prog_13_method_28_code 0 = .ok (.aload_n 0, 1) := by decide +kernel
theorem d_Mo_tellOne_1 : decode prog_13_method_28_code 1 = .ok (.getfield 146, 3) := by decide +kernel
theorem d_Mo_tellOne_4 : decode prog_13_method_28_code 4 = .ok (.istore_n 1, 1) := by decide +kernel
theorem d_Mo_tellOne_5 : decode prog_13_method_28_code 5 = .ok (.aload_n 0, 1) := by decide +kernel
theorem d_Mo_tellOne_6 : decode prog_13_method_28_code 6 = .ok (.getfield 20, 3) := by decide +kernel
theorem d_Mo_tellOne_9 : decode prog_13_method_28_code 9 = .ok (.aload_n 0, 1) := by decide +kernel
theorem d_Mo_tellOne_10 : decode prog_13_method_28_code 10 = .ok (.getfield 146, 3) := by decide +kernel
theorem d_Mo_tellOne_13 : decode prog_13_method_28_code 13 = .ok (.iaload, 1) := by decide +kernel
theorem d_Mo_tellOne_14 : decode prog_13_method_28_code 14 = .ok (.istore_n 2, 1) := by decide +kernel
theorem d_Mo_tellOne_15 : decode prog_13_method_28_code 15 = .ok (.iload_n 2, 1) := by decide +kernel
theorem d_Mo_tellOne_16 : decode prog_13_method_28_code 16 = .ok (.bipush 20, 2) := by decide +kernel
theorem d_Mo_tellOne_18 : decode prog_13_method_28_code 18 = .ok (.if_icmp .lt 9, 3) := by decide +kernel
theorem d_Mo_tellOne_21 : decode prog_13_method_28_code 21 = .ok (.iload_n 2, 1) := by decide +kernel
theorem d_Mo_tellOne_22 : decode prog_13_method_28_code 22 = .ok (.bipush 31, 2) := by decide +kernel
theorem d_Mo_tellOne_24 : decode prog_13_method_28_code 24 = .ok (.if_icmp .le 8, 3) := by decide +kernel
theorem d_Mo_tellOne_27 : decode prog_13_method_28_code 27 = .ok (.aload_n 0, 1) := by decide +kernel
theorem d_Mo_tellOne_28 : decode prog_13_method_28_code 28 = .ok (.iconst 1, 1) := by decide +kernel
theorem d_Mo_tellOne_29 : decode prog_13_method_28_code 29 = .ok (.invokevirtual 158, 3) := by decide +kernel
theorem d_Mo_tellOne_32 : decode prog_13_method_28_code 32 = .ok (.iload_n 2, 1) := by decide +kernel
theorem d_Mo_tellOne_33 : decode prog_13_method_28_code 33 = .ok (.bipush 20, 2) := by decide +kernel
theorem d_Mo_tellOne_35 : decode prog_13_method_28_code 35 = .ok (.if_icmp .ne 17, 3) := by decide +kernel
theorem d_Mo_tellOne_38 : decode prog_13_method_28_code 38 = .ok (.aload_n 0, 1) := by decide +kernel
theorem d_Mo_tellOne_39 : decode prog_13_method_28_code 39 = .ok (.getfield 40, 3) := by decide +kernel
theorem d_Mo_tellOne_42 : decode prog_13_method_28_code 42 = .ok (.aload_n 0, 1) := by decide +kernel
theorem d_Mo_tellOne_43 : decode prog_13_method_28_code 43 = .ok (.getfield 173, 3) := by decide +kernel
theorem d_Mo_tellOne_46 : decode prog_13_method_28_code 46 = .ok (.iaload, 1) := by decide +kernel
theorem d_Mo_tellOne_47 : decode prog_13_method_28_code 47 = .ok (.bipush 7, 2) := by decide +kernel
theorem d_Mo_tellOne_49 : decode prog_13_method_28_code 49 = .ok (.if_icmp .eq 23, 3) := by decide +kernel
theorem d_Mo_tellOne_52 : decode prog_13_method_28_code 52 = .ok (.iload_n 2, 1) := by decide +kernel
theorem d_Mo_tellOne_53 : decode prog_13_method_28_code 53 = .ok (.bipush 21, 2) := by decide +kernel
theorem d_Mo_tellOne_55 : decode prog_13_method_28_code 55 = .ok (.if_icmp .ne 22, 3) := by decide +kernel
theorem d_Mo_tellOne_58 : decode prog_13_method_28_code 58 = .ok (.aload_n 0, 1) := by decide +kernel
theorem d_Mo_tellOne_59 : decode prog_13_method_28_code 59 = .ok (.getfield 43, 3) := by decide +kernel
theorem d_Mo_tellOne_62 : decode prog_13_method_28_code 62 = .ok (.aload_n 0, 1) := by decide +kernel
theorem d_Mo_tellOne_63 : decode prog_13_method_28_code 63 = .ok (.getfield 173, 3) := by decide +kernel
theorem d_Mo_tellOne_66 : decode prog_13_method_28_code 66 = .ok (.iaload, 1) := by decide +kernel
theorem d_Mo_tellOne_67 : decode prog_13_method_28_code 67 = .ok (.bipush 16, 2) := by decide +kernel
theorem d_Mo_tellOne_69 : decode prog_13_method_28_code 69 = .ok (.if_icmp .ne 8, 3) := by decide +kernel
theorem d_Mo_tellOne_72 : decode prog_13_method_28_code 72 = .ok (.aload_n 0, 1) := by decide +kernel
theorem d_Mo_tellOne_73 : decode prog_13_method_28_code 73 = .ok (.iload_n 1, 1) := by decide +kernel
theorem d_Mo_tellOne_74 : decode prog_13_method_28_code 74 = .ok (.invokevirtual 190, 3) := by decide +kernel
theorem d_Mo_tellOne_77 : decode prog_13_method_28_code 77 = .ok (.aload_n 0, 1) := by decide +kernel
theorem d_Mo_tellOne_78 : decode prog_13_method_28_code 78 = .ok (.getfield 143, 3) := by decide +kernel
theorem d_Mo_tellOne_81 : decode prog_13_method_28_code 81 = .ok (.ifCond .le 4, 3) := by decide +kernel
theorem d_Mo_tellOne_84 : decode prog_13_method_28_code 84 = .ok (.return_, 1) := by decide +kernel
theorem d_Mo_tellOne_85 : decode prog_13_method_28_code 85 = .ok (.aload_n 0, 1) := by decide +kernel
theorem d_Mo_tellOne_86 : decode prog_13_method_28_code 86 = .ok (.invokevirtual 164, 3) := by decide +kernel
theorem d_Mo_tellOne_89 : decode prog_13_method_28_code 89 = .ok (.iload_n 2, 1) := by decide +kernel
theorem d_Mo_tellOne_90 : decode prog_13_method_28_code 90 = .ok (.bipush 20, 2) := by decide +kernel
theorem d_Mo_tellOne_92 : decode prog_13_method_28_code 92 = .ok (.if_icmp .ne 10, 3) := by decide +kernel
theorem d_Mo_tellOne_95 : decode prog_13_method_28_code 95 = .ok (.aload_n 0, 1) := by decide +kernel
theorem d_Mo_tellOne_96 : decode prog_13_method_28_code 96 = .ok (.invokevirtual 193, 3) := by decide +kernel
theorem d_Mo_tellOne_99 : decode prog_13_method_28_code 99 = .ok (.goto 123, 3) := by decide +kernel
theorem d_Mo_tellOne_102 : decode prog_13_method_28_code 102 = .ok (.iload_n 2, 1) := by decide +kernel
theorem d_Mo_tellOne_103 : decode prog_13_method_28_code 103 = .ok (.bipush 21, 2) := by decide +kernel
theorem d_Mo_tellOne_105 : decode prog_13_method_28_code 105 = .ok (.if_icmp .ne 10, 3) := by decide +kernel
theorem d_Mo_tellOne_108 : decode prog_13_method_28_code 108 = .ok (.aload_n 0, 1) := by decide +kernel
theorem d_Mo_tellOne_109 : decode prog_13_method_28_code 109 = .ok (.invokevirtual 196, 3) := by decide +kernel
theorem d_Mo_tellOne_112 : decode prog_13_method_28_code 112 = .ok (.goto 110, 3) := by decide +kernel
theorem d_Mo_tellOne_115 : decode prog_13_method_28_code 115 = .ok (.iload_n 2, 1) := by decide +kernel
theorem d_Mo_tellOne_116 : decode prog_13_method_28_code 116 = .ok (.bipush 31, 2) := by decide +kernel
theorem d_Mo_tellOne_118 : decode prog_13_method_28_code 118 = .ok (.if_icmp .ne 55, 3) := by decide +kernel
theorem d_Mo_tellOne_121 : decode prog_13_method_28_code 121 = .ok (.aload_n 0, 1) := by decide +kernel
theorem d_Mo_tellOne_122 : decode prog_13_method_28_code 122 = .ok (.bipush 32, 2) := by decide +kernel
theorem d_Mo_tellOne_124 : decode prog_13_method_28_code 124 = .ok (.invokevirtual 161, 3) := by decide +kernel
theorem d_Mo_tellOne_127 : decode prog_13_method_28_code 127 = .ok (.ifCond .ne 17, 3) := by decide +kernel
theorem d_Mo_tellOne_130 : decode prog_13_method_28_code 130 = .ok (.aload_n 0, 1) := by decide +kernel
theorem d_Mo_tellOne_131 : decode prog_13_method_28_code 131 = .ok (.bipush 33, 2) := by decide +kernel
theorem d_Mo_tellOne_133 : decode prog_13_method_28_code 133 = .ok (.invokevirtual 161, 3) := by decide +kernel
theorem d_Mo_tellOne_136 : decode prog_13_method_28_code 136 = .ok (.ifCond .ne 8, 3) := by decide +kernel
theorem d_Mo_tellOne_139 : decode prog_13_method_28_code 139 = .ok (.aload_n 0, 1) := by decide +kernel
theorem d_Mo_tellOne_140 : decode prog_13_method_28_code 140 = .ok (.iconst 1, 1) := by decide +kernel
theorem d_Mo_tellOne_141 : decode prog_13_method_28_code 141 = .ok (.invokevirtual 158, 3) := by decide +kernel
theorem d_Mo_tellOne_144 : decode prog_13_method_28_code 144 = .ok (.aload_n 0, 1) := by decide +kernel
theorem d_Mo_tellOne_145 : decode prog_13_method_28_code 145 = .ok (.getfield 61, 3) := by decide +kernel
theorem d_Mo_tellOne_148 : decode prog_13_method_28_code 148 = .ok (.aload_n 0, 1) := by decide +kernel
theorem d_Mo_tellOne_149 : decode prog_13_method_28_code 149 = .ok (.getfield 173, 3) := by decide +kernel
theorem d_Mo_tellOne_152 : decode prog_13_method_28_code 152 = .ok (.aload_n 0, 1) := by decide +kernel
theorem d_Mo_tellOne_153 : decode prog_13_method_28_code 153 = .ok (.bipush 33, 2) := by decide +kernel
theorem d_Mo_tellOne_155 : decode prog_13_method_28_code 155 = .ok (.invokevirtual 161, 3) := by decide +kernel
theorem d_Mo_tellOne_158 : decode prog_13_method_28_code 158 = .ok (.bastore, 1) := by decide +kernel
theorem d_Mo_tellOne_159 : decode prog_13_method_28_code 159 = .ok (.aload_n 0, 1) := by decide +kernel
theorem d_Mo_tellOne_160 : decode prog_13_method_28_code 160 = .ok (.getfield 143, 3) := by decide +kernel
theorem d_Mo_tellOne_163 : decode prog_13_method_28_code 163 = .ok (.ifCond .ne 59, 3) := by decide +kernel
theorem d_Mo_tellOne_166 : decode prog_13_method_28_code 166 = .ok (.aload_n 0, 1) := by decide +kernel
theorem d_Mo_tellOne_167 : decode prog_13_method_28_code 167 = .ok (.invokevirtual 164, 3) := by decide +kernel
theorem d_Mo_tellOne_170 : decode prog_13_method_28_code 170 = .ok (.goto 52, 3) := by decide +kernel
theorem d_Mo_tellOne_173 : decode prog_13_method_28_code 173 = .ok (.iload_n 2, 1) := by decide +kernel
theorem d_Mo_tellOne_174 : decode prog_13_method_28_code 174 = .ok (.bipush 22, 2) := by decide +kernel
theorem d_Mo_tellOne_176 : decode prog_13_method_28_code 176 = .ok (.isub, 1) := by decide +kernel
theorem d_Mo_tellOne_177 : decode prog_13_method_28_code 177 = .ok (.istore_n 3, 1) := by decide +kernel
theorem d_Mo_tellOne_178 : decode prog_13_method_28_code 178 = .ok (.aload_n 0, 1) := by decide +kernel
theorem d_Mo_tellOne_179 : decode prog_13_method_28_code 179 = .ok (.iload_n 3, 1) := by decide +kernel
theorem d_Mo_tellOne_180 : decode prog_13_method_28_code 180 = .ok (.invokestatic 199, 3) := by decide +kernel
theorem d_Mo_tellOne_183 : decode prog_13_method_28_code 183 = .ok (.iload_n 3, 1) := by decide +kernel
theorem d_Mo_tellOne_184 : decode prog_13_method_28_code 184 = .ok (.invokestatic 202, 3) := by decide +kernel
theorem d_Mo_tellOne_187 : decode prog_13_method_28_code 187 = .ok (.invokevirtual 205, 3) := by decide +kernel
theorem d_Mo_tellOne_190 : decode prog_13_method_28_code 190 = .ok (.istore 4, 2) := by decide +kernel
theorem d_Mo_tellOne_192 : decode prog_13_method_28_code 192 = .ok (.aload_n 0, 1) := by decide +kernel
theorem d_Mo_tellOne_193 : decode prog_13_method_28_code 193 = .ok (.getfield 65, 3) := by decide +kernel
theorem d_Mo_tellOne_196 : decode prog_13_method_28_code 196 = .ok (.bipush 9, 2) := by decide +kernel
theorem d_Mo_tellOne_198 : decode prog_13_method_28_code 198 = .ok (.aload_n 0, 1) := by decide +kernel
theorem d_Mo_tellOne_199 : decode prog_13_method_28_code 199 = .ok (.getfield 173, 3) := by decide +kernel
theorem d_Mo_tellOne_202 : decode prog_13_method_28_code 202 = .ok (.imul, 1) := by decide +kernel
theorem d_Mo_tellOne_203 : decode prog_13_method_28_code 203 = .ok (.iload_n 3, 1) := by decide +kernel
theorem d_Mo_tellOne_204 : decode prog_13_method_28_code 204 = .ok (.iadd, 1) := by decide +kernel
theorem d_Mo_tellOne_205 : decode prog_13_method_28_code 205 = .ok (.iload_n 3, 1) := by decide +kernel
theorem d_Mo_tellOne_206 : decode prog_13_method_28_code 206 = .ok (.ifCond .ne 13, 3) := by decide +kernel
theorem d_Mo_tellOne_209 : decode prog_13_method_28_code 209 = .ok (.iload 4, 2) := by decide +kernel
theorem d_Mo_tellOne_211 : decode prog_13_method_28_code 211 = .ok (.iload 4, 2) := by decide +kernel
theorem d_Mo_tellOne_213 : decode prog_13_method_28_code 213 = .ok (.iconst 2, 1) := by decide +kernel
theorem d_Mo_tellOne_214 : decode prog_13_method_28_code 214 = .ok (.irem, 1) := by decide +kernel
theorem d_Mo_tellOne_215 : decode prog_13_method_28_code 215 = .ok (.isub, 1) := by decide +kernel
theorem d_Mo_tellOne_216 : decode prog_13_method_28_code 216 = .ok (.goto 5, 3) := by decide +kernel
theorem d_Mo_tellOne_219 : decode prog_13_method_28_code 219 = .ok (.iload 4, 2) := by decide +kernel
theorem d_Mo_tellOne_221 : decode prog_13_method_28_code 221 = .ok (.iastore, 1) := by decide +kernel
theorem d_Mo_tellOne_222 : decode prog_13_method_28_code 222 = .ok (.aload_n 0, 1) := by decide +kernel
theorem d_Mo_tellOne_223 : decode prog_13_method_28_code 223 = .ok (.iconst 4, 1) := by decide +kernel
theorem d_Mo_tellOne_224 : decode prog_13_method_28_code 224 = .ok (.invokevirtual 209, 3) := by decide +kernel
theorem d_Mo_tellOne_227 : decode prog_13_method_28_code 227 = .ok (.return_, 1) := by decide +kernel
def wp_Mo_tellOne_b222   (Q : sx_M → sx_L → Prop)  (σ : sx_M) (τ : sx_L) : Prop := wp_Mo_must (4 : Int32) σ τ (fun σ1 τ1 => Q σ1 τ1)
def wp_Mo_tellOne_b221   (Q : sx_M → sx_L → Prop) (w1 : Int32) (w2 : Int32) (σ : sx_M) (τ : sx_L) : Prop := vp_in w1 18 ∧ (∀ σ3 : sx_M, σ3 = sx_u σ 66 0 0 w1.toNatClampNeg w2 → (wp_Mo_tellOne_b222 Q σ3 τ))
def wp_Mo_tellOne_b144   (Q : sx_M → sx_L → Prop)  (σ : sx_M) (τ : sx_L) : Prop := wp_Mo_is (33 : Int32) σ τ (fun r4 σ4 τ4 => vp_in (σ 50 0 0 18) 2 ∧ (∀ σ6 : sx_M, σ6 = sx_u σ4 65 0 0 (σ 50 0 0 18).toNatClampNeg (vp_nar .boolean r4) → (if σ6 50 0 0 12 = 0 then (wp_Mo_goesOn σ6 τ4 (fun σ8 τ8 => wp_Mo_tellOne_b222 Q σ8 τ8)) else (wp_Mo_tellOne_b222 Q σ6 τ4))))
def wp_Mo_tellOne_b77   (Q : sx_M → sx_L → Prop) (v2 : Int32) (σ : sx_M) (τ : sx_L) : Prop := if σ 50 0 0 12 ≤ 0 then (wp_Mo_goesOn σ τ (fun σ10 τ10 => if v2 = 20 then (wp_Mo_tellPost σ10 τ10 (fun σ24 τ24 => wp_Mo_tellOne_b222 Q σ24 τ24)) else (if v2 = 21 then (wp_Mo_tellLink σ10 τ10 (fun σ23 τ23 => wp_Mo_tellOne_b222 Q σ23 τ23)) else (if v2 = 31 then (wp_Mo_is (32 : Int32) σ10 τ10 (fun r18 σ18 τ18 => if r18 = 0 then (wp_Mo_is (33 : Int32) σ18 τ18 (fun r20 σ20 τ20 => if r20 = 0 then (wp_Mo_fail (1 : Int32) σ20 τ20 (fun σ22 τ22 => wp_Mo_tellOne_b144 Q σ22 τ22)) else (wp_Mo_tellOne_b144 Q σ20 τ20))) else (wp_Mo_tellOne_b144 Q σ18 τ18))) else (wp_Mo_leastOf (v2 - 22) σ10 τ10 (fun r14 σ14 τ14 => wp_Mo_mostOf (v2 - 22) σ14 τ14 (fun r15 σ15 τ15 => wp_Mo_bounded r14 r15 σ15 τ15 (fun r16 σ16 τ16 => if v2 - 22 = 0 then (wp_Mo_tellOne_b221 Q ((9 * (σ16 50 0 0 18)) + (v2 - 22)) (r16 - (r16 - r16 / 2 * 2)) σ16 τ16) else (wp_Mo_tellOne_b221 Q ((9 * (σ16 50 0 0 18)) + (v2 - 22)) r16 σ16 τ16))))))))) else (Q σ τ)
def wp_Mo_tellOne_b72   (Q : sx_M → sx_L → Prop) (v1 : Int32) (v2 : Int32) (σ : sx_M) (τ : sx_L) : Prop := wp_Mo_tooMany v1 σ τ (fun σ25 τ25 => wp_Mo_tellOne_b77 Q v2 σ25 τ25)
def wp_Mo_tellOne_b52   (Q : sx_M → sx_L → Prop) (v1 : Int32) (v2 : Int32) (σ : sx_M) (τ : sx_L) : Prop := if v2 = 21 then (vp_in (σ 50 0 0 18) 2 ∧ (if σ 59 0 0 (σ 50 0 0 18).toNatClampNeg = 16 then (wp_Mo_tellOne_b72 Q v1 v2 σ τ) else (wp_Mo_tellOne_b77 Q v2 σ τ))) else (wp_Mo_tellOne_b77 Q v2 σ τ)
def wp_Mo_tellOne_b32   (Q : sx_M → sx_L → Prop) (v1 : Int32) (v2 : Int32) (σ : sx_M) (τ : sx_L) : Prop := if v2 = 20 then (vp_in (σ 50 0 0 18) 2 ∧ (if σ 58 0 0 (σ 50 0 0 18).toNatClampNeg = 7 then (wp_Mo_tellOne_b72 Q v1 v2 σ τ) else (wp_Mo_tellOne_b52 Q v1 v2 σ τ))) else (wp_Mo_tellOne_b52 Q v1 v2 σ τ)
def wp_Mo_tellOne_b27   (Q : sx_M → sx_L → Prop) (v1 : Int32) (v2 : Int32) (σ : sx_M) (τ : sx_L) : Prop := wp_Mo_fail (1 : Int32) σ τ (fun σ32 τ32 => wp_Mo_tellOne_b32 Q v1 v2 σ32 τ32)
def wp_Mo_tellOne  (σ : sx_M) (τ : sx_L) (Q : sx_M → sx_L → Prop) : Prop := vp_in (σ 50 0 0 11) 403 ∧ (if σ 53 0 0 (σ 50 0 0 11).toNatClampNeg < 20 then (wp_Mo_tellOne_b27 Q (σ 50 0 0 11) (σ 53 0 0 (σ 50 0 0 11).toNatClampNeg) σ τ) else (if σ 53 0 0 (σ 50 0 0 11).toNatClampNeg ≤ 31 then (wp_Mo_tellOne_b32 Q (σ 50 0 0 11) (σ 53 0 0 (σ 50 0 0 11).toNatClampNeg) σ τ) else (wp_Mo_tellOne_b27 Q (σ 50 0 0 11) (σ 53 0 0 (σ 50 0 0 11).toNatClampNeg) σ τ)))
abbrev rm_Mo_tellOne : Room := { frames := 4, cells := 0, slots := 0, locals := 89 }
set_option maxRecDepth 100000 in
set_option maxHeartbeats 4000000 in
theorem g_Mo_tellOne_b222 {l : Launch} {K : sx_K} {X : sx_T}   {Q : sx_M → sx_L → Prop} (hX : sx_C X K prog_13_method_28_code 5 "SensorTreeModel" none rm_Mo_tellOne l) (hK : kx_F K) (hE : sx_E X K (sx_Qv K Q))   (σ : sx_M) (τ : sx_L)  (h : wp_Mo_tellOne_b222 Q  σ τ) : sx_G X K 5 222 [(0, .ref (K.2.2.1 50 0 0))] [] (sx_H K σ τ) := by
  unfold wp_Mo_tellOne_b222 at h
  refine sx_aload_n (pc2 := 223) hX 0 d_Mo_tellOne_222 rfl rfl rfl ?_
  refine sx_iconst (v := 4) (pc2 := 224) hX d_Mo_tellOne_223 (by decide) rfl ?_
  refine cl_Mo_209 (pc2 := 227) hX hK h  ⟨Nat.le_of_ble_eq_true rfl, Nat.le_of_ble_eq_true rfl⟩ (Nat.le_of_ble_eq_true rfl) d_Mo_tellOne_224 rfl (fun σ1 τ1 h => ?_)
  exact sx_vret hX hE h d_Mo_tellOne_227
set_option maxRecDepth 100000 in
set_option maxHeartbeats 4000000 in
theorem g_Mo_tellOne_b221 {l : Launch} {K : sx_K} {X : sx_T}   {Q : sx_M → sx_L → Prop} (hX : sx_C X K prog_13_method_28_code 5 "SensorTreeModel" none rm_Mo_tellOne l) (hK : kx_F K) (hE : sx_E X K (sx_Qv K Q))  (w1 : Int32) (w2 : Int32) (σ : sx_M) (τ : sx_L)  (h : wp_Mo_tellOne_b221 Q  w1 w2 σ τ) : sx_G X K 5 221 [(0, .ref (K.2.2.1 50 0 0))] [.int w2, .int w1, .ref (K.2.2.1 66 0 0)] (sx_H K σ τ) := by
  unfold wp_Mo_tellOne_b221 at h
  obtain ⟨hc2, h⟩ := h
  refine sx_iast (pc2 := 222) hX (kr_66 hK) (fun _ => rfl) hc2 d_Mo_tellOne_221 rfl ?_
  refine sx_nm (fun σ3 e3 => ?_)
  replace h := h σ3 e3
  exact g_Mo_tellOne_b222 hX hK hE   _ _ h
set_option maxRecDepth 100000 in
set_option maxHeartbeats 4000000 in
theorem g_Mo_tellOne_b144 {l : Launch} {K : sx_K} {X : sx_T}   {Q : sx_M → sx_L → Prop} (hX : sx_C X K prog_13_method_28_code 5 "SensorTreeModel" none rm_Mo_tellOne l) (hK : kx_F K) (hE : sx_E X K (sx_Qv K Q))   (σ : sx_M) (τ : sx_L)  (h : wp_Mo_tellOne_b144 Q  σ τ) : sx_G X K 5 144 [(0, .ref (K.2.2.1 50 0 0))] [] (sx_H K σ τ) := by
  unfold wp_Mo_tellOne_b144 at h
  refine sx_aload_n (pc2 := 145) hX 0 d_Mo_tellOne_144 rfl rfl rfl ?_
  refine fg_Mo_61 (pc2 := 148) hX (kr_50 hK) d_Mo_tellOne_145 rfl ?_
  refine sx_aload_n (pc2 := 149) hX 0 d_Mo_tellOne_148 rfl rfl rfl ?_
  refine fg_Mo_173 (pc2 := 152) hX (kr_50 hK) d_Mo_tellOne_149 rfl ?_
  refine sx_aload_n (pc2 := 153) hX 0 d_Mo_tellOne_152 rfl rfl rfl ?_
  refine sx_bipush (v := 33) (pc2 := 155) hX d_Mo_tellOne_153 (by decide) rfl ?_
  refine cl_Mo_161 (pc2 := 158) hX hK h  ⟨Nat.le_of_ble_eq_true rfl, Nat.le_of_ble_eq_true rfl⟩ (Nat.le_of_ble_eq_true rfl) d_Mo_tellOne_155 rfl (fun r4 σ4 τ4 h => ?_)
  obtain ⟨hc5, h⟩ := h
  refine sx_zast (pc2 := 159) hX (kr_65 hK) (fun _ => rfl) hc5 d_Mo_tellOne_158 rfl ?_
  refine sx_nm (fun σ6 e6 => ?_)
  replace h := h σ6 e6
  refine sx_aload_n (pc2 := 160) hX 0 d_Mo_tellOne_159 rfl rfl rfl ?_
  refine fg_Mo_143 (pc2 := 163) hX (kr_50 hK) d_Mo_tellOne_160 rfl ?_
  refine sx_if_ne (tgt := 222) (pc2 := 166) hX d_Mo_tellOne_163 (by decide) rfl (fun hc7 => ?_) (fun hc7 => ?_)
  · replace h := sx_f h hc7
    exact g_Mo_tellOne_b222 hX hK hE   _ _ h
  · replace h := sx_t h hc7
    refine sx_aload_n (pc2 := 167) hX 0 d_Mo_tellOne_166 rfl rfl rfl ?_
    refine cl_Mo_164 (pc2 := 170) hX hK h  ⟨Nat.le_of_ble_eq_true rfl, Nat.le_of_ble_eq_true rfl⟩ (Nat.le_of_ble_eq_true rfl) d_Mo_tellOne_167 rfl (fun σ8 τ8 h => ?_)
    refine sx_goto (tgt := 222) hX d_Mo_tellOne_170 (by decide) ?_
    exact g_Mo_tellOne_b222 hX hK hE   _ _ h
set_option maxRecDepth 100000 in
set_option maxHeartbeats 4000000 in
theorem g_Mo_tellOne_b77 {l : Launch} {K : sx_K} {X : sx_T}   {Q : sx_M → sx_L → Prop} (hX : sx_C X K prog_13_method_28_code 5 "SensorTreeModel" none rm_Mo_tellOne l) (hK : kx_F K) (hE : sx_E X K (sx_Qv K Q))  (v2 : Int32) (σ : sx_M) (τ : sx_L)  (h : wp_Mo_tellOne_b77 Q  v2 σ τ) : sx_G X K 5 77 [(0, .ref (K.2.2.1 50 0 0)), (2, .int v2)] [] (sx_H K σ τ) := by
  unfold wp_Mo_tellOne_b77 at h
  refine sx_aload_n (pc2 := 78) hX 0 d_Mo_tellOne_77 rfl rfl rfl ?_
  refine fg_Mo_143 (pc2 := 81) hX (kr_50 hK) d_Mo_tellOne_78 rfl ?_
  refine sx_if_le (tgt := 85) (pc2 := 84) hX d_Mo_tellOne_81 (by decide) rfl (fun hc9 => ?_) (fun hc9 => ?_)
  · replace h := sx_t h hc9
    refine sx_aload_n (pc2 := 86) hX 0 d_Mo_tellOne_85 rfl rfl rfl ?_
    refine cl_Mo_164 (pc2 := 89) hX hK h  ⟨Nat.le_of_ble_eq_true rfl, Nat.le_of_ble_eq_true rfl⟩ (Nat.le_of_ble_eq_true rfl) d_Mo_tellOne_86 rfl (fun σ10 τ10 h => ?_)
    refine sx_iload_n (pc2 := 90) hX 1 d_Mo_tellOne_89 rfl rfl rfl ?_
    refine sx_bipush (v := 20) (pc2 := 92) hX d_Mo_tellOne_90 (by decide) rfl ?_
    refine sx_icmp_ne (tgt := 102) (pc2 := 95) hX d_Mo_tellOne_92 (by decide) rfl (fun hc11 => ?_) (fun hc11 => ?_)
    · replace h := sx_f h hc11
      refine sx_iload_n (pc2 := 103) hX 1 d_Mo_tellOne_102 rfl rfl rfl ?_
      refine sx_bipush (v := 21) (pc2 := 105) hX d_Mo_tellOne_103 (by decide) rfl ?_
      refine sx_icmp_ne (tgt := 115) (pc2 := 108) hX d_Mo_tellOne_105 (by decide) rfl (fun hc12 => ?_) (fun hc12 => ?_)
      · replace h := sx_f h hc12
        refine sx_iload_n (pc2 := 116) hX 1 d_Mo_tellOne_115 rfl rfl rfl ?_
        refine sx_bipush (v := 31) (pc2 := 118) hX d_Mo_tellOne_116 (by decide) rfl ?_
        refine sx_icmp_ne (tgt := 173) (pc2 := 121) hX d_Mo_tellOne_118 (by decide) rfl (fun hc13 => ?_) (fun hc13 => ?_)
        · replace h := sx_f h hc13
          refine sx_iload_n (pc2 := 174) hX 1 d_Mo_tellOne_173 rfl rfl rfl ?_
          refine sx_bipush (v := 22) (pc2 := 176) hX d_Mo_tellOne_174 (by decide) rfl ?_
          refine sx_isub (pc2 := 177) hX d_Mo_tellOne_176 rfl ?_
          refine sx_istore_n (pc2 := 178) hX _ [(0, .ref (K.2.2.1 50 0 0)), (2, .int v2), (3, .int (v2 - 22))] [1, 2, 0] d_Mo_tellOne_177 rfl (by decide) rfl rfl rfl ?_
          refine sx_aload_n (pc2 := 179) hX 0 d_Mo_tellOne_178 rfl rfl rfl ?_
          refine sx_iload_n (pc2 := 180) hX 2 d_Mo_tellOne_179 rfl rfl rfl ?_
          refine cl_Mo_199 (pc2 := 183) hX hK h  ⟨Nat.le_of_ble_eq_true rfl, Nat.le_of_ble_eq_true rfl⟩ (Nat.le_of_ble_eq_true rfl) d_Mo_tellOne_180 rfl (fun r14 σ14 τ14 h => ?_)
          refine sx_iload_n (pc2 := 184) hX 2 d_Mo_tellOne_183 rfl rfl rfl ?_
          refine cl_Mo_202 (pc2 := 187) hX hK h  ⟨Nat.le_of_ble_eq_true rfl, Nat.le_of_ble_eq_true rfl⟩ (Nat.le_of_ble_eq_true rfl) d_Mo_tellOne_184 rfl (fun r15 σ15 τ15 h => ?_)
          refine cl_Mo_205 (pc2 := 190) hX hK h  ⟨Nat.le_of_ble_eq_true rfl, Nat.le_of_ble_eq_true rfl⟩ (Nat.le_of_ble_eq_true rfl) d_Mo_tellOne_187 rfl (fun r16 σ16 τ16 h => ?_)
          refine sx_istore (pc2 := 192) hX _ [(0, .ref (K.2.2.1 50 0 0)), (2, .int v2), (3, .int (v2 - 22)), (4, .int r16)] [1, 2, 3, 0] d_Mo_tellOne_190 (by decide) rfl rfl rfl ?_
          refine sx_aload_n (pc2 := 193) hX 0 d_Mo_tellOne_192 rfl rfl rfl ?_
          refine fg_Mo_65 (pc2 := 196) hX (kr_50 hK) d_Mo_tellOne_193 rfl ?_
          refine sx_bipush (v := 9) (pc2 := 198) hX d_Mo_tellOne_196 (by decide) rfl ?_
          refine sx_aload_n (pc2 := 199) hX 0 d_Mo_tellOne_198 rfl rfl rfl ?_
          refine fg_Mo_173 (pc2 := 202) hX (kr_50 hK) d_Mo_tellOne_199 rfl ?_
          refine sx_imul (pc2 := 203) hX d_Mo_tellOne_202 rfl ?_
          refine sx_iload_n (pc2 := 204) hX 2 d_Mo_tellOne_203 rfl rfl rfl ?_
          refine sx_iadd (pc2 := 205) hX d_Mo_tellOne_204 rfl ?_
          refine sx_iload_n (pc2 := 206) hX 2 d_Mo_tellOne_205 rfl rfl rfl ?_
          refine sx_if_ne (tgt := 219) (pc2 := 209) hX d_Mo_tellOne_206 (by decide) rfl (fun hc17 => ?_) (fun hc17 => ?_)
          · replace h := sx_f h hc17
            refine sx_iload (pc2 := 221) hX 3 d_Mo_tellOne_219 rfl rfl ?_
            refine sx_sub [(0, .ref (K.2.2.1 50 0 0))] [0] rfl ?_
            exact g_Mo_tellOne_b221 hX hK hE   ((9 * (σ16 50 0 0 18)) + (v2 - 22)) r16 _ _ h
          · replace h := sx_t h hc17
            refine sx_iload (pc2 := 211) hX 3 d_Mo_tellOne_209 rfl rfl ?_
            refine sx_iload (pc2 := 213) hX 3 d_Mo_tellOne_211 rfl rfl ?_
            refine sx_iconst (v := 2) (pc2 := 214) hX d_Mo_tellOne_213 (by decide) rfl ?_
            refine sx_irem (pc2 := 215) hX d_Mo_tellOne_214 (by decide) rfl ?_
            refine sx_isub (pc2 := 216) hX d_Mo_tellOne_215 rfl ?_
            refine sx_goto (tgt := 221) hX d_Mo_tellOne_216 (by decide) ?_
            refine sx_sub [(0, .ref (K.2.2.1 50 0 0))] [0] rfl ?_
            exact g_Mo_tellOne_b221 hX hK hE   ((9 * (σ16 50 0 0 18)) + (v2 - 22)) (r16 - (r16 - r16 / 2 * 2)) _ _ h
        · replace h := sx_t h hc13
          refine sx_aload_n (pc2 := 122) hX 0 d_Mo_tellOne_121 rfl rfl rfl ?_
          refine sx_bipush (v := 32) (pc2 := 124) hX d_Mo_tellOne_122 (by decide) rfl ?_
          refine cl_Mo_161 (pc2 := 127) hX hK h  ⟨Nat.le_of_ble_eq_true rfl, Nat.le_of_ble_eq_true rfl⟩ (Nat.le_of_ble_eq_true rfl) d_Mo_tellOne_124 rfl (fun r18 σ18 τ18 h => ?_)
          refine sx_if_ne (tgt := 144) (pc2 := 130) hX d_Mo_tellOne_127 (by decide) rfl (fun hc19 => ?_) (fun hc19 => ?_)
          · replace h := sx_f h hc19
            refine sx_sub [(0, .ref (K.2.2.1 50 0 0))] [0] rfl ?_
            exact g_Mo_tellOne_b144 hX hK hE   _ _ h
          · replace h := sx_t h hc19
            refine sx_aload_n (pc2 := 131) hX 0 d_Mo_tellOne_130 rfl rfl rfl ?_
            refine sx_bipush (v := 33) (pc2 := 133) hX d_Mo_tellOne_131 (by decide) rfl ?_
            refine cl_Mo_161 (pc2 := 136) hX hK h  ⟨Nat.le_of_ble_eq_true rfl, Nat.le_of_ble_eq_true rfl⟩ (Nat.le_of_ble_eq_true rfl) d_Mo_tellOne_133 rfl (fun r20 σ20 τ20 h => ?_)
            refine sx_if_ne (tgt := 144) (pc2 := 139) hX d_Mo_tellOne_136 (by decide) rfl (fun hc21 => ?_) (fun hc21 => ?_)
            · replace h := sx_f h hc21
              refine sx_sub [(0, .ref (K.2.2.1 50 0 0))] [0] rfl ?_
              exact g_Mo_tellOne_b144 hX hK hE   _ _ h
            · replace h := sx_t h hc21
              refine sx_aload_n (pc2 := 140) hX 0 d_Mo_tellOne_139 rfl rfl rfl ?_
              refine sx_iconst (v := 1) (pc2 := 141) hX d_Mo_tellOne_140 (by decide) rfl ?_
              refine cl_Mo_158 (pc2 := 144) hX hK h  ⟨Nat.le_of_ble_eq_true rfl, Nat.le_of_ble_eq_true rfl⟩ (Nat.le_of_ble_eq_true rfl) d_Mo_tellOne_141 rfl (fun σ22 τ22 h => ?_)
              refine sx_sub [(0, .ref (K.2.2.1 50 0 0))] [0] rfl ?_
              exact g_Mo_tellOne_b144 hX hK hE   _ _ h
      · replace h := sx_t h hc12
        refine sx_aload_n (pc2 := 109) hX 0 d_Mo_tellOne_108 rfl rfl rfl ?_
        refine cl_Mo_196 (pc2 := 112) hX hK h  ⟨Nat.le_of_ble_eq_true rfl, Nat.le_of_ble_eq_true rfl⟩ (Nat.le_of_ble_eq_true rfl) d_Mo_tellOne_109 rfl (fun σ23 τ23 h => ?_)
        refine sx_goto (tgt := 222) hX d_Mo_tellOne_112 (by decide) ?_
        refine sx_sub [(0, .ref (K.2.2.1 50 0 0))] [0] rfl ?_
        exact g_Mo_tellOne_b222 hX hK hE   _ _ h
    · replace h := sx_t h hc11
      refine sx_aload_n (pc2 := 96) hX 0 d_Mo_tellOne_95 rfl rfl rfl ?_
      refine cl_Mo_193 (pc2 := 99) hX hK h  ⟨Nat.le_of_ble_eq_true rfl, Nat.le_of_ble_eq_true rfl⟩ (Nat.le_of_ble_eq_true rfl) d_Mo_tellOne_96 rfl (fun σ24 τ24 h => ?_)
      refine sx_goto (tgt := 222) hX d_Mo_tellOne_99 (by decide) ?_
      refine sx_sub [(0, .ref (K.2.2.1 50 0 0))] [0] rfl ?_
      exact g_Mo_tellOne_b222 hX hK hE   _ _ h
  · replace h := sx_f h hc9
    exact sx_vret hX hE h d_Mo_tellOne_84
set_option maxRecDepth 100000 in
set_option maxHeartbeats 4000000 in
theorem g_Mo_tellOne_b72 {l : Launch} {K : sx_K} {X : sx_T}   {Q : sx_M → sx_L → Prop} (hX : sx_C X K prog_13_method_28_code 5 "SensorTreeModel" none rm_Mo_tellOne l) (hK : kx_F K) (hE : sx_E X K (sx_Qv K Q))  (v1 : Int32) (v2 : Int32) (σ : sx_M) (τ : sx_L)  (h : wp_Mo_tellOne_b72 Q  v1 v2 σ τ) : sx_G X K 5 72 [(0, .ref (K.2.2.1 50 0 0)), (1, .int v1), (2, .int v2)] [] (sx_H K σ τ) := by
  unfold wp_Mo_tellOne_b72 at h
  refine sx_aload_n (pc2 := 73) hX 0 d_Mo_tellOne_72 rfl rfl rfl ?_
  refine sx_iload_n (pc2 := 74) hX 1 d_Mo_tellOne_73 rfl rfl rfl ?_
  refine cl_Mo_190 (pc2 := 77) hX hK h  ⟨Nat.le_of_ble_eq_true rfl, Nat.le_of_ble_eq_true rfl⟩ (Nat.le_of_ble_eq_true rfl) d_Mo_tellOne_74 rfl (fun σ25 τ25 h => ?_)
  refine sx_sub [(0, .ref (K.2.2.1 50 0 0)), (2, .int v2)] [0, 2] rfl ?_
  exact g_Mo_tellOne_b77 hX hK hE   v2 _ _ h
set_option maxRecDepth 100000 in
set_option maxHeartbeats 4000000 in
theorem g_Mo_tellOne_b52 {l : Launch} {K : sx_K} {X : sx_T}   {Q : sx_M → sx_L → Prop} (hX : sx_C X K prog_13_method_28_code 5 "SensorTreeModel" none rm_Mo_tellOne l) (hK : kx_F K) (hE : sx_E X K (sx_Qv K Q))  (v1 : Int32) (v2 : Int32) (σ : sx_M) (τ : sx_L)  (h : wp_Mo_tellOne_b52 Q  v1 v2 σ τ) : sx_G X K 5 52 [(0, .ref (K.2.2.1 50 0 0)), (1, .int v1), (2, .int v2)] [] (sx_H K σ τ) := by
  unfold wp_Mo_tellOne_b52 at h
  refine sx_iload_n (pc2 := 53) hX 2 d_Mo_tellOne_52 rfl rfl rfl ?_
  refine sx_bipush (v := 21) (pc2 := 55) hX d_Mo_tellOne_53 (by decide) rfl ?_
  refine sx_icmp_ne (tgt := 77) (pc2 := 58) hX d_Mo_tellOne_55 (by decide) rfl (fun hc26 => ?_) (fun hc26 => ?_)
  · replace h := sx_f h hc26
    refine sx_sub [(0, .ref (K.2.2.1 50 0 0)), (2, .int v2)] [0, 2] rfl ?_
    exact g_Mo_tellOne_b77 hX hK hE   v2 _ _ h
  · replace h := sx_t h hc26
    refine sx_aload_n (pc2 := 59) hX 0 d_Mo_tellOne_58 rfl rfl rfl ?_
    refine fg_Mo_43 (pc2 := 62) hX (kr_50 hK) d_Mo_tellOne_59 rfl ?_
    refine sx_aload_n (pc2 := 63) hX 0 d_Mo_tellOne_62 rfl rfl rfl ?_
    refine fg_Mo_173 (pc2 := 66) hX (kr_50 hK) d_Mo_tellOne_63 rfl ?_
    obtain ⟨hc27, h⟩ := h
    refine sx_iald (pc2 := 67) hX (kr_59 hK) rfl hc27 d_Mo_tellOne_66 rfl ?_
    refine sx_bipush (v := 16) (pc2 := 69) hX d_Mo_tellOne_67 (by decide) rfl ?_
    refine sx_icmp_ne (tgt := 77) (pc2 := 72) hX d_Mo_tellOne_69 (by decide) rfl (fun hc28 => ?_) (fun hc28 => ?_)
    · replace h := sx_f h hc28
      refine sx_sub [(0, .ref (K.2.2.1 50 0 0)), (2, .int v2)] [0, 2] rfl ?_
      exact g_Mo_tellOne_b77 hX hK hE   v2 _ _ h
    · replace h := sx_t h hc28
      exact g_Mo_tellOne_b72 hX hK hE   v1 v2 _ _ h
set_option maxRecDepth 100000 in
set_option maxHeartbeats 4000000 in
theorem g_Mo_tellOne_b32 {l : Launch} {K : sx_K} {X : sx_T}   {Q : sx_M → sx_L → Prop} (hX : sx_C X K prog_13_method_28_code 5 "SensorTreeModel" none rm_Mo_tellOne l) (hK : kx_F K) (hE : sx_E X K (sx_Qv K Q))  (v1 : Int32) (v2 : Int32) (σ : sx_M) (τ : sx_L)  (h : wp_Mo_tellOne_b32 Q  v1 v2 σ τ) : sx_G X K 5 32 [(0, .ref (K.2.2.1 50 0 0)), (1, .int v1), (2, .int v2)] [] (sx_H K σ τ) := by
  unfold wp_Mo_tellOne_b32 at h
  refine sx_iload_n (pc2 := 33) hX 2 d_Mo_tellOne_32 rfl rfl rfl ?_
  refine sx_bipush (v := 20) (pc2 := 35) hX d_Mo_tellOne_33 (by decide) rfl ?_
  refine sx_icmp_ne (tgt := 52) (pc2 := 38) hX d_Mo_tellOne_35 (by decide) rfl (fun hc29 => ?_) (fun hc29 => ?_)
  · replace h := sx_f h hc29
    exact g_Mo_tellOne_b52 hX hK hE   v1 v2 _ _ h
  · replace h := sx_t h hc29
    refine sx_aload_n (pc2 := 39) hX 0 d_Mo_tellOne_38 rfl rfl rfl ?_
    refine fg_Mo_40 (pc2 := 42) hX (kr_50 hK) d_Mo_tellOne_39 rfl ?_
    refine sx_aload_n (pc2 := 43) hX 0 d_Mo_tellOne_42 rfl rfl rfl ?_
    refine fg_Mo_173 (pc2 := 46) hX (kr_50 hK) d_Mo_tellOne_43 rfl ?_
    obtain ⟨hc30, h⟩ := h
    refine sx_iald (pc2 := 47) hX (kr_58 hK) rfl hc30 d_Mo_tellOne_46 rfl ?_
    refine sx_bipush (v := 7) (pc2 := 49) hX d_Mo_tellOne_47 (by decide) rfl ?_
    refine sx_icmp_eq (tgt := 72) (pc2 := 52) hX d_Mo_tellOne_49 (by decide) rfl (fun hc31 => ?_) (fun hc31 => ?_)
    · replace h := sx_t h hc31
      exact g_Mo_tellOne_b72 hX hK hE   v1 v2 _ _ h
    · replace h := sx_f h hc31
      exact g_Mo_tellOne_b52 hX hK hE   v1 v2 _ _ h
set_option maxRecDepth 100000 in
set_option maxHeartbeats 4000000 in
theorem g_Mo_tellOne_b27 {l : Launch} {K : sx_K} {X : sx_T}   {Q : sx_M → sx_L → Prop} (hX : sx_C X K prog_13_method_28_code 5 "SensorTreeModel" none rm_Mo_tellOne l) (hK : kx_F K) (hE : sx_E X K (sx_Qv K Q))  (v1 : Int32) (v2 : Int32) (σ : sx_M) (τ : sx_L)  (h : wp_Mo_tellOne_b27 Q  v1 v2 σ τ) : sx_G X K 5 27 [(0, .ref (K.2.2.1 50 0 0)), (1, .int v1), (2, .int v2)] [] (sx_H K σ τ) := by
  unfold wp_Mo_tellOne_b27 at h
  refine sx_aload_n (pc2 := 28) hX 0 d_Mo_tellOne_27 rfl rfl rfl ?_
  refine sx_iconst (v := 1) (pc2 := 29) hX d_Mo_tellOne_28 (by decide) rfl ?_
  refine cl_Mo_158 (pc2 := 32) hX hK h  ⟨Nat.le_of_ble_eq_true rfl, Nat.le_of_ble_eq_true rfl⟩ (Nat.le_of_ble_eq_true rfl) d_Mo_tellOne_29 rfl (fun σ32 τ32 h => ?_)
  exact g_Mo_tellOne_b32 hX hK hE   v1 v2 _ _ h
set_option maxRecDepth 100000 in
set_option maxHeartbeats 4000000 in
theorem c_Mo_tellOne {l : Launch} {K : sx_K} (hK : kx_F K)  (σ : sx_M) (τ : sx_L) (Q : sx_M → sx_L → Prop)  (h : wp_Mo_tellOne σ τ Q) : Met l y_Mo_tellOne (sx_wd y_Mo_tellOne prog_13_method_28_code 5 none) rm_Mo_tellOne (sx_Pc K [.ref (K.2.2.1 50 0 0)] σ τ) (sx_Qv K Q) 0 0 (sx_A K) := by
  refine sx_met (by decide) (Nat.le_of_ble_eq_true rfl) (fun X hX hE => ?_)
  replace hX : sx_C X K prog_13_method_28_code 5 "SensorTreeModel" none rm_Mo_tellOne l := hX
  show sx_G X K 5 0 [(0, .ref (K.2.2.1 50 0 0))] [] (sx_H K σ τ)
  unfold wp_Mo_tellOne at h
  refine sx_aload_n (pc2 := 1) hX 0 d_Mo_tellOne_0 rfl rfl rfl ?_
  refine fg_Mo_146 (pc2 := 4) hX (kr_50 hK) d_Mo_tellOne_1 rfl ?_
  refine sx_istore_n (pc2 := 5) hX _ [(0, .ref (K.2.2.1 50 0 0)), (1, .int (σ 50 0 0 11))] [1, 0] d_Mo_tellOne_4 rfl (by decide) rfl rfl rfl ?_
  refine sx_aload_n (pc2 := 6) hX 0 d_Mo_tellOne_5 rfl rfl rfl ?_
  refine fg_Mo_20 (pc2 := 9) hX (kr_50 hK) d_Mo_tellOne_6 rfl ?_
  refine sx_aload_n (pc2 := 10) hX 0 d_Mo_tellOne_9 rfl rfl rfl ?_
  refine fg_Mo_146 (pc2 := 13) hX (kr_50 hK) d_Mo_tellOne_10 rfl ?_
  obtain ⟨hc33, h⟩ := h
  refine sx_iald (pc2 := 14) hX (kr_53 hK) rfl hc33 d_Mo_tellOne_13 rfl ?_
  refine sx_istore_n (pc2 := 15) hX _ [(0, .ref (K.2.2.1 50 0 0)), (1, .int (σ 50 0 0 11)), (2, .int (σ 53 0 0 (σ 50 0 0 11).toNatClampNeg))] [1, 2, 0] d_Mo_tellOne_14 rfl (by decide) rfl rfl rfl ?_
  refine sx_iload_n (pc2 := 16) hX 2 d_Mo_tellOne_15 rfl rfl rfl ?_
  refine sx_bipush (v := 20) (pc2 := 18) hX d_Mo_tellOne_16 (by decide) rfl ?_
  refine sx_icmp_lt (tgt := 27) (pc2 := 21) hX d_Mo_tellOne_18 (by decide) rfl (fun hc34 => ?_) (fun hc34 => ?_)
  · replace h := sx_t h hc34
    exact g_Mo_tellOne_b27 hX hK hE   (σ 50 0 0 11) (σ 53 0 0 (σ 50 0 0 11).toNatClampNeg) _ _ h
  · replace h := sx_f h hc34
    refine sx_iload_n (pc2 := 22) hX 2 d_Mo_tellOne_21 rfl rfl rfl ?_
    refine sx_bipush (v := 31) (pc2 := 24) hX d_Mo_tellOne_22 (by decide) rfl ?_
    refine sx_icmp_le (tgt := 32) (pc2 := 27) hX d_Mo_tellOne_24 (by decide) rfl (fun hc35 => ?_) (fun hc35 => ?_)
    · replace h := sx_t h hc35
      exact g_Mo_tellOne_b32 hX hK hE   (σ 50 0 0 11) (σ 53 0 0 (σ 50 0 0 11).toNatClampNeg) _ _ h
    · replace h := sx_f h hc35
      exact g_Mo_tellOne_b27 hX hK hE   (σ 50 0 0 11) (σ 53 0 0 (σ 50 0 0 11).toNatClampNeg) _ _ h
theorem cl_Mo_176 {X : sx_T} {K : sx_K} {cc : ByteArray} {nL : Nat} {ret : Option FieldType} {rm : Room} {l : Launch} {pc pc2 : Nat} {lv : List (Nat × Value)} {st : List Value} {σ : sx_M} {τ : sx_L}  {Q : sx_M → sx_L → Prop} (hX : sx_C X K cc nL "SensorTreeModel" ret rm l) (hK : kx_F K) (h : wp_Mo_tellOne  σ τ Q)  (hR : rm_Mo_tellOne.frames + 1 ≤ rm.frames ∧ 8 + (5 + 11) + rm_Mo_tellOne.locals ≤ rm.locals) (hst : (st.map fun v => v.category).sum ≤ 8) (hd : decode cc pc = .ok (.invokevirtual 176, 3)) (hpc : pc + 3 = pc2) (kk : ∀ (σ2 : sx_M) (τ2 : sx_L), Q σ2 τ2 → sx_G X K nL pc2 lv (st) (sx_H K σ2 τ2)) : sx_G X K nL pc lv (.ref (K.2.2.1 50 0 0) :: st) (sx_H K σ τ) :=
  sx_callVv (Q := Q) (As := []) hX (c_Mo_tellOne hK  σ τ Q  h) (kr_50 hK) rfl rfl lk_454 ls_51 hy_Mo_tellOne lk_452 lk_364 lk_453 ⟨rfl, rfl⟩ hR hst rfl hd hpc kk
def y_Mo_keeps : MethodName := ⟨"SensorTreeModel", "keeps", "(III)V"⟩
theorem hy_Mo_keeps : y_Mo_keeps.cls ≠ "java/lang/invoke/MethodHandle" ∧ y_Mo_keeps.cls ≠ "java/lang/invoke/VarHandle" ∧ (parseMethodDescriptor y_Mo_keeps.desc).map (fun d => d.parameters.length) = some 3 := by decide +kernel
theorem d_Mo_keeps_0 : decode prog_13_method_36_code 0 = .ok (.aload_n 0, 1) := by decide +kernel
theorem d_Mo_keeps_1 : decode prog_13_method_36_code 1 = .ok (.getfield 71, 3) := by decide +kernel
theorem d_Mo_keeps_4 : decode prog_13_method_36_code 4 = .ok (.bipush 26, 2) := by decide +kernel
theorem d_Mo_keeps_6 : decode prog_13_method_36_code 6 = .ok (.bipush 10, 2) := by decide +kernel
theorem d_Mo_keeps_8 : decode prog_13_method_36_code 8 = .ok (.iload_n 1, 1) := by decide +kernel
theorem d_Mo_keeps_9 : decode prog_13_method_36_code 9 = .ok (.imul, 1) := by decide +kernel
theorem d_Mo_keeps_10 : decode prog_13_method_36_code 10 = .ok (.iadd, 1) := by decide +kernel
theorem d_Mo_keeps_11 : decode prog_13_method_36_code 11 = .ok (.iload_n 2, 1) := by decide +kernel
theorem d_Mo_keeps_12 : decode prog_13_method_36_code 12 = .ok (.iadd, 1) := by decide +kernel
theorem d_Mo_keeps_13 : decode prog_13_method_36_code 13 = .ok (.iload_n 3, 1) := by decide +kernel
theorem d_Mo_keeps_14 : decode prog_13_method_36_code 14 = .ok (.iastore, 1) := by decide +kernel
theorem d_Mo_keeps_15 : decode prog_13_method_36_code 15 = .ok (.return_, 1) := by decide +kernel
def wp_Mo_keeps (x1 : Int32) (x2 : Int32) (x3 : Int32) (σ : sx_M) (τ : sx_L) (Q : sx_M → sx_L → Prop) : Prop := vp_in ((26 + (10 * x1)) + x2) 643 ∧ (∀ σ2 : sx_M, σ2 = sx_u σ 68 0 0 ((26 + (10 * x1)) + x2).toNatClampNeg x3 → (Q σ2 τ))
abbrev rm_Mo_keeps : Room := { frames := 0, cells := 0, slots := 0, locals := 0 }
set_option maxRecDepth 100000 in
set_option maxHeartbeats 4000000 in
theorem c_Mo_keeps {l : Launch} {K : sx_K} (hK : kx_F K) (x1 : Int32) (x2 : Int32) (x3 : Int32) (σ : sx_M) (τ : sx_L) (Q : sx_M → sx_L → Prop)  (h : wp_Mo_keeps x1 x2 x3 σ τ Q) : Met l y_Mo_keeps (sx_wd y_Mo_keeps prog_13_method_36_code 4 none) rm_Mo_keeps (sx_Pc K [.ref (K.2.2.1 50 0 0), .int x1, .int x2, .int x3] σ τ) (sx_Qv K Q) 0 0 (sx_A K) := by
  refine sx_met (by decide) (Nat.le_of_ble_eq_true rfl) (fun X hX hE => ?_)
  replace hX : sx_C X K prog_13_method_36_code 4 "SensorTreeModel" none rm_Mo_keeps l := hX
  show sx_G X K 4 0 [(0, .ref (K.2.2.1 50 0 0)), (1, .int x1), (2, .int x2), (3, .int x3)] [] (sx_H K σ τ)
  unfold wp_Mo_keeps at h
  refine sx_aload_n (pc2 := 1) hX 0 d_Mo_keeps_0 rfl rfl rfl ?_
  refine fg_Mo_71 (pc2 := 4) hX (kr_50 hK) d_Mo_keeps_1 rfl ?_
  refine sx_bipush (v := 26) (pc2 := 6) hX d_Mo_keeps_4 (by decide) rfl ?_
  refine sx_bipush (v := 10) (pc2 := 8) hX d_Mo_keeps_6 (by decide) rfl ?_
  refine sx_iload_n (pc2 := 9) hX 1 d_Mo_keeps_8 rfl rfl rfl ?_
  refine sx_imul (pc2 := 10) hX d_Mo_keeps_9 rfl ?_
  refine sx_iadd (pc2 := 11) hX d_Mo_keeps_10 rfl ?_
  refine sx_iload_n (pc2 := 12) hX 2 d_Mo_keeps_11 rfl rfl rfl ?_
  refine sx_iadd (pc2 := 13) hX d_Mo_keeps_12 rfl ?_
  refine sx_iload_n (pc2 := 14) hX 3 d_Mo_keeps_13 rfl rfl rfl ?_
  obtain ⟨hc1, h⟩ := h
  refine sx_iast (pc2 := 15) hX (kr_68 hK) (fun _ => rfl) hc1 d_Mo_keeps_14 rfl ?_
  refine sx_nm (fun σ2 e2 => ?_)
  replace h := h σ2 e2
  exact sx_vret hX hE h d_Mo_keeps_15
theorem cl_Mo_229 {X : sx_T} {K : sx_K} {cc : ByteArray} {nL : Nat} {ret : Option FieldType} {rm : Room} {l : Launch} {pc pc2 : Nat} {lv : List (Nat × Value)} {st : List Value} {σ : sx_M} {τ : sx_L} {x1 : Int32} {x2 : Int32} {x3 : Int32} {Q : sx_M → sx_L → Prop} (hX : sx_C X K cc nL "SensorTreeModel" ret rm l) (hK : kx_F K) (h : wp_Mo_keeps x1 x2 x3 σ τ Q)  (hR : rm_Mo_keeps.frames + 1 ≤ rm.frames ∧ 8 + (4 + 11) + rm_Mo_keeps.locals ≤ rm.locals) (hst : (st.map fun v => v.category).sum ≤ 8) (hd : decode cc pc = .ok (.invokevirtual 229, 3)) (hpc : pc + 3 = pc2) (kk : ∀ (σ2 : sx_M) (τ2 : sx_L), Q σ2 τ2 → sx_G X K nL pc2 lv (st) (sx_H K σ2 τ2)) : sx_G X K nL pc lv (.int x3 :: .int x2 :: .int x1 :: .ref (K.2.2.1 50 0 0) :: st) (sx_H K σ τ) :=
  sx_callVv (Q := Q) (As := [.int x1, .int x2, .int x3]) hX (c_Mo_keeps hK x1 x2 x3 σ τ Q  h) (kr_50 hK) rfl rfl lk_433 ls_40 hy_Mo_keeps lk_431 lk_364 lk_432 ⟨rfl, rfl⟩ hR hst rfl hd hpc kk
def y_Mo_setting : MethodName := ⟨"SensorTreeModel", "setting", "(I)I"⟩
theorem hy_Mo_setting : y_Mo_setting.cls ≠ "java/lang/invoke/MethodHandle" ∧ y_Mo_setting.cls ≠ "java/lang/invoke/VarHandle" ∧ (parseMethodDescriptor y_Mo_setting.desc).map (fun d => d.parameters.length) = some 1 := by decide +kernel
theorem d_Mo_setting_0 : decode prog_13_method_31_code 0 = .ok (.aload_n 0, 1) := by decide +kernel
theorem d_Mo_setting_1 : decode prog_13_method_31_code 1 = .ok (.getfield 65, 3) := by decide +kernel
theorem d_Mo_setting_4 : decode prog_13_method_31_code 4 = .ok (.bipush 9, 2) := by decide +kernel
theorem d_Mo_setting_6 : decode prog_13_method_31_code 6 = .ok (.aload_n 0, 1) := by decide +kernel
theorem d_Mo_setting_7 : decode prog_13_method_31_code 7 = .ok (.getfield 170, 3) := by decide +kernel
theorem d_Mo_setting_10 : decode prog_13_method_31_code 10 = .ok (.imul, 1) := by decide +kernel
theorem d_Mo_setting_11 : decode prog_13_method_31_code 11 = .ok (.iload_n 1, 1) := by decide +kernel
theorem d_Mo_setting_12 : decode prog_13_method_31_code 12 = .ok (.iadd, 1) := by decide +kernel
theorem d_Mo_setting_13 : decode prog_13_method_31_code 13 = .ok (.iaload, 1) := by decide +kernel
theorem d_Mo_setting_14 : decode prog_13_method_31_code 14 = .ok (.ireturn, 1) := by decide +kernel
def wp_Mo_setting (x1 : Int32) (σ : sx_M) (τ : sx_L) (Q : Int32 → sx_M → sx_L → Prop) : Prop := vp_in ((9 * (σ 50 0 0 17)) + x1) 18 ∧ (Q (σ 66 0 0 ((9 * (σ 50 0 0 17)) + x1).toNatClampNeg) σ τ)
abbrev rm_Mo_setting : Room := { frames := 0, cells := 0, slots := 0, locals := 0 }
set_option maxRecDepth 100000 in
set_option maxHeartbeats 4000000 in
theorem c_Mo_setting {l : Launch} {K : sx_K} (hK : kx_F K) (x1 : Int32) (σ : sx_M) (τ : sx_L) (Q : Int32 → sx_M → sx_L → Prop)  (h : wp_Mo_setting x1 σ τ Q) : Met l y_Mo_setting (sx_wd y_Mo_setting prog_13_method_31_code 2 (some .int)) rm_Mo_setting (sx_Pc K [.ref (K.2.2.1 50 0 0), .int x1] σ τ) (sx_Qi K Q) 0 0 (sx_A K) := by
  refine sx_met (by decide) (Nat.le_of_ble_eq_true rfl) (fun X hX hE => ?_)
  replace hX : sx_C X K prog_13_method_31_code 2 "SensorTreeModel" (some .int) rm_Mo_setting l := hX
  show sx_G X K 2 0 [(0, .ref (K.2.2.1 50 0 0)), (1, .int x1)] [] (sx_H K σ τ)
  unfold wp_Mo_setting at h
  refine sx_aload_n (pc2 := 1) hX 0 d_Mo_setting_0 rfl rfl rfl ?_
  refine fg_Mo_65 (pc2 := 4) hX (kr_50 hK) d_Mo_setting_1 rfl ?_
  refine sx_bipush (v := 9) (pc2 := 6) hX d_Mo_setting_4 (by decide) rfl ?_
  refine sx_aload_n (pc2 := 7) hX 0 d_Mo_setting_6 rfl rfl rfl ?_
  refine fg_Mo_170 (pc2 := 10) hX (kr_50 hK) d_Mo_setting_7 rfl ?_
  refine sx_imul (pc2 := 11) hX d_Mo_setting_10 rfl ?_
  refine sx_iload_n (pc2 := 12) hX 1 d_Mo_setting_11 rfl rfl rfl ?_
  refine sx_iadd (pc2 := 13) hX d_Mo_setting_12 rfl ?_
  obtain ⟨hc1, h⟩ := h
  refine sx_iald (pc2 := 14) hX (kr_66 hK) rfl hc1 d_Mo_setting_13 rfl ?_
  exact sx_iret hX hE h d_Mo_setting_14
theorem cl_Mo_233 {X : sx_T} {K : sx_K} {cc : ByteArray} {nL : Nat} {ret : Option FieldType} {rm : Room} {l : Launch} {pc pc2 : Nat} {lv : List (Nat × Value)} {st : List Value} {σ : sx_M} {τ : sx_L} {x1 : Int32} {Q : Int32 → sx_M → sx_L → Prop} (hX : sx_C X K cc nL "SensorTreeModel" ret rm l) (hK : kx_F K) (h : wp_Mo_setting x1 σ τ Q)  (hR : rm_Mo_setting.frames + 1 ≤ rm.frames ∧ 8 + (2 + 11) + rm_Mo_setting.locals ≤ rm.locals) (hst : (st.map fun v => v.category).sum ≤ 8) (hd : decode cc pc = .ok (.invokevirtual 233, 3)) (hpc : pc + 3 = pc2) (kk : ∀ (r : Int32) (σ2 : sx_M) (τ2 : sx_L), Q r σ2 τ2 → sx_G X K nL pc2 lv (.int r :: st) (sx_H K σ2 τ2)) : sx_G X K nL pc lv (.int x1 :: .ref (K.2.2.1 50 0 0) :: st) (sx_H K σ τ) :=
  sx_callVi (Q := Q) (As := [.int x1]) hX (c_Mo_setting hK x1 σ τ Q  h) (kr_50 hK) rfl rfl lk_427 ls_41 hy_Mo_setting lk_425 lk_364 lk_426 ⟨rfl, rfl⟩ hR hst rfl hd hpc kk
def y_Mo_mixed : MethodName := ⟨"SensorTreeModel", "mixed", "(II)I"⟩
theorem hy_Mo_mixed : y_Mo_mixed.cls ≠ "java/lang/invoke/MethodHandle" ∧ y_Mo_mixed.cls ≠ "java/lang/invoke/VarHandle" ∧ (parseMethodDescriptor y_Mo_mixed.desc).map (fun d => d.parameters.length) = some 2 := by decide +kernel
theorem d_Mo_mixed_0 : decode prog_13_method_42_code 0 = .ok (.iload_n 0, 1) := by decide +kernel
theorem d_Mo_mixed_1 : decode prog_13_method_42_code 1 = .ok (.iload_n 1, 1) := by decide +kernel
theorem d_Mo_mixed_2 : decode prog_13_method_42_code 2 = .ok (.ixor, 1) := by decide +kernel
theorem d_Mo_mixed_3 : decode prog_13_method_42_code 3 = .ok (.ldc 239, 2) := by decide +kernel
theorem d_Mo_mixed_5 : decode prog_13_method_42_code 5 = .ok (.imul, 1) := by decide +kernel
theorem d_Mo_mixed_6 : decode prog_13_method_42_code 6 = .ok (.sipush 12345, 3) := by decide +kernel
theorem d_Mo_mixed_9 : decode prog_13_method_42_code 9 = .ok (.iadd, 1) := by decide +kernel
theorem d_Mo_mixed_10 : decode prog_13_method_42_code 10 = .ok (.istore_n 2, 1) := by decide +kernel
theorem d_Mo_mixed_11 : decode prog_13_method_42_code 11 = .ok (.iload_n 2, 1) := by decide +kernel
theorem d_Mo_mixed_12 : decode prog_13_method_42_code 12 = .ok (.iload_n 2, 1) := by decide +kernel
theorem d_Mo_mixed_13 : decode prog_13_method_42_code 13 = .ok (.bipush 15, 2) := by decide +kernel
theorem d_Mo_mixed_15 : decode prog_13_method_42_code 15 = .ok (.iushr, 1) := by decide +kernel
theorem d_Mo_mixed_16 : decode prog_13_method_42_code 16 = .ok (.ixor, 1) := by decide +kernel
theorem d_Mo_mixed_17 : decode prog_13_method_42_code 17 = .ok (.ireturn, 1) := by decide +kernel
def wp_Mo_mixed (x0 : Int32) (x1 : Int32) (σ : sx_M) (τ : sx_L) (Q : Int32 → sx_M → sx_L → Prop) : Prop := Q ((((x0 ^^^ x1) * 1103515245) + 12345) ^^^ (((((x0 ^^^ x1) * 1103515245) + 12345).toUInt32 >>> ((15 : Int32).toUInt32 &&& Int32.toUInt32 31)).toInt32)) σ τ
abbrev rm_Mo_mixed : Room := { frames := 0, cells := 0, slots := 0, locals := 0 }
set_option maxRecDepth 100000 in
set_option maxHeartbeats 4000000 in
theorem c_Mo_mixed {l : Launch} {K : sx_K} (hK : kx_F K) (x0 : Int32) (x1 : Int32) (σ : sx_M) (τ : sx_L) (Q : Int32 → sx_M → sx_L → Prop)  (h : wp_Mo_mixed x0 x1 σ τ Q) : Met l y_Mo_mixed (sx_wd y_Mo_mixed prog_13_method_42_code 3 (some .int)) rm_Mo_mixed (sx_Pc K [.int x0, .int x1] σ τ) (sx_Qi K Q) 0 0 (sx_A K) := by
  refine sx_met (by decide) (Nat.le_of_ble_eq_true rfl) (fun X hX hE => ?_)
  replace hX : sx_C X K prog_13_method_42_code 3 "SensorTreeModel" (some .int) rm_Mo_mixed l := hX
  show sx_G X K 3 0 [(0, .int x0), (1, .int x1)] [] (sx_H K σ τ)
  unfold wp_Mo_mixed at h
  refine sx_iload_n (pc2 := 1) hX 0 d_Mo_mixed_0 rfl rfl rfl ?_
  refine sx_iload_n (pc2 := 2) hX 1 d_Mo_mixed_1 rfl rfl rfl ?_
  refine sx_ixor (pc2 := 3) hX d_Mo_mixed_2 rfl ?_
  refine sx_ldc (v := 1103515245) (pc2 := 5) hX lk_20 d_Mo_mixed_3 rfl ?_
  refine sx_imul (pc2 := 6) hX d_Mo_mixed_5 rfl ?_
  refine sx_sipush (v := 12345) (pc2 := 9) hX d_Mo_mixed_6 (by decide) rfl ?_
  refine sx_iadd (pc2 := 10) hX d_Mo_mixed_9 rfl ?_
  refine sx_istore_n (pc2 := 11) hX _ [(0, .int x0), (1, .int x1), (2, .int (((x0 ^^^ x1) * 1103515245) + 12345))] [1, 2, 0] d_Mo_mixed_10 rfl (by decide) rfl rfl rfl ?_
  refine sx_iload_n (pc2 := 12) hX 2 d_Mo_mixed_11 rfl rfl rfl ?_
  refine sx_iload_n (pc2 := 13) hX 2 d_Mo_mixed_12 rfl rfl rfl ?_
  refine sx_bipush (v := 15) (pc2 := 15) hX d_Mo_mixed_13 (by decide) rfl ?_
  refine sx_iushr (pc2 := 16) hX d_Mo_mixed_15 rfl ?_
  refine sx_ixor (pc2 := 17) hX d_Mo_mixed_16 rfl ?_
  exact sx_iret hX hE h d_Mo_mixed_17
theorem cl_Mo_240 {X : sx_T} {K : sx_K} {cc : ByteArray} {nL : Nat} {ret : Option FieldType} {rm : Room} {l : Launch} {pc pc2 : Nat} {lv : List (Nat × Value)} {st : List Value} {σ : sx_M} {τ : sx_L} {x0 : Int32} {x1 : Int32} {Q : Int32 → sx_M → sx_L → Prop} (hX : sx_C X K cc nL "SensorTreeModel" ret rm l) (hK : kx_F K) (h : wp_Mo_mixed x0 x1 σ τ Q)  (hR : rm_Mo_mixed.frames + 1 ≤ rm.frames ∧ 8 + (3 + 11) + rm_Mo_mixed.locals ≤ rm.locals) (hst : (st.map fun v => v.category).sum ≤ 8) (hd : decode cc pc = .ok (.invokestatic 240, 3)) (hpc : pc + 3 = pc2) (kk : ∀ (r : Int32) (σ2 : sx_M) (τ2 : sx_L), Q r σ2 τ2 → sx_G X K nL pc2 lv (.int r :: st) (sx_H K σ2 τ2)) : sx_G X K nL pc lv (.int x1 :: .int x0 :: st) (sx_H K σ τ) :=
  sx_callSi (Q := Q) (As := [.int x0, .int x1]) hX (c_Mo_mixed hK x0 x1 σ τ Q  h) lk_430 hy_Mo_mixed lk_428 lk_364 lk_429 ⟨rfl, rfl⟩ hR hst rfl hd hpc kk
def y_Mo_lotOf : MethodName := ⟨"SensorTreeModel", "lotOf", "(II)I"⟩
theorem hy_Mo_lotOf : y_Mo_lotOf.cls ≠ "java/lang/invoke/MethodHandle" ∧ y_Mo_lotOf.cls ≠ "java/lang/invoke/VarHandle" ∧ (parseMethodDescriptor y_Mo_lotOf.desc).map (fun d => d.parameters.length) = some 2 := by decide +kernel
theorem d_Mo_lotOf_0 : decode prog_13_method_43_code 0 = .ok (.aload_n 0, 1) := by decide +kernel
theorem d_Mo_lotOf_1 : decode prog_13_method_43_code 1 = .ok (.bipush 8, 2) := by decide +kernel
theorem d_Mo_lotOf_3 : decode prog_13_method_43_code 3 = .ok (.invokevirtual 233, 3) := by decide +kernel
theorem d_Mo_lotOf_6 : decode prog_13_method_43_code 6 = .ok (.aload_n 0, 1) := by decide +kernel
theorem d_Mo_lotOf_7 : decode prog_13_method_43_code 7 = .ok (.getfield 223, 3) := by decide +kernel
theorem d_Mo_lotOf_10 : decode prog_13_method_43_code 10 = .ok (.iadd, 1) := by decide +kernel
theorem d_Mo_lotOf_11 : decode prog_13_method_43_code 11 = .ok (.sipush 229, 3) := by decide +kernel
theorem d_Mo_lotOf_14 : decode prog_13_method_43_code 14 = .ok (.invokestatic 240, 3) := by decide +kernel
theorem d_Mo_lotOf_17 : decode prog_13_method_43_code 17 = .ok (.iload_n 1, 1) := by decide +kernel
theorem d_Mo_lotOf_18 : decode prog_13_method_43_code 18 = .ok (.invokestatic 240, 3) := by decide +kernel
theorem d_Mo_lotOf_21 : decode prog_13_method_43_code 21 = .ok (.iconst 1, 1) := by decide +kernel
theorem d_Mo_lotOf_22 : decode prog_13_method_43_code 22 = .ok (.iushr, 1) := by decide +kernel
theorem d_Mo_lotOf_23 : decode prog_13_method_43_code 23 = .ok (.iload_n 2, 1) := by decide +kernel
theorem d_Mo_lotOf_24 : decode prog_13_method_43_code 24 = .ok (.irem, 1) := by decide +kernel
theorem d_Mo_lotOf_25 : decode prog_13_method_43_code 25 = .ok (.ireturn, 1) := by decide +kernel
def wp_Mo_lotOf (x1 : Int32) (x2 : Int32) (σ : sx_M) (τ : sx_L) (Q : Int32 → sx_M → sx_L → Prop) : Prop := wp_Mo_setting (8 : Int32) σ τ (fun r1 σ1 τ1 => wp_Mo_mixed (r1 + (σ1 50 0 0 31)) (229 : Int32) σ1 τ1 (fun r2 σ2 τ2 => wp_Mo_mixed r2 x1 σ2 τ2 (fun r3 σ3 τ3 => ¬ x2 = 0 ∧ (Q (((r3.toUInt32 >>> ((1 : Int32).toUInt32 &&& Int32.toUInt32 31)).toInt32) - ((r3.toUInt32 >>> ((1 : Int32).toUInt32 &&& Int32.toUInt32 31)).toInt32) / x2 * x2) σ3 τ3))))
abbrev rm_Mo_lotOf : Room := { frames := 1, cells := 0, slots := 0, locals := 22 }
set_option maxRecDepth 100000 in
set_option maxHeartbeats 4000000 in
theorem c_Mo_lotOf {l : Launch} {K : sx_K} (hK : kx_F K) (x1 : Int32) (x2 : Int32) (σ : sx_M) (τ : sx_L) (Q : Int32 → sx_M → sx_L → Prop)  (h : wp_Mo_lotOf x1 x2 σ τ Q) : Met l y_Mo_lotOf (sx_wd y_Mo_lotOf prog_13_method_43_code 3 (some .int)) rm_Mo_lotOf (sx_Pc K [.ref (K.2.2.1 50 0 0), .int x1, .int x2] σ τ) (sx_Qi K Q) 0 0 (sx_A K) := by
  refine sx_met (by decide) (Nat.le_of_ble_eq_true rfl) (fun X hX hE => ?_)
  replace hX : sx_C X K prog_13_method_43_code 3 "SensorTreeModel" (some .int) rm_Mo_lotOf l := hX
  show sx_G X K 3 0 [(0, .ref (K.2.2.1 50 0 0)), (1, .int x1), (2, .int x2)] [] (sx_H K σ τ)
  unfold wp_Mo_lotOf at h
  refine sx_aload_n (pc2 := 1) hX 0 d_Mo_lotOf_0 rfl rfl rfl ?_
  refine sx_bipush (v := 8) (pc2 := 3) hX d_Mo_lotOf_1 (by decide) rfl ?_
  refine cl_Mo_233 (pc2 := 6) hX hK h  ⟨Nat.le_of_ble_eq_true rfl, Nat.le_of_ble_eq_true rfl⟩ (Nat.le_of_ble_eq_true rfl) d_Mo_lotOf_3 rfl (fun r1 σ1 τ1 h => ?_)
  refine sx_aload_n (pc2 := 7) hX 0 d_Mo_lotOf_6 rfl rfl rfl ?_
  refine fg_Mo_223 (pc2 := 10) hX (kr_50 hK) d_Mo_lotOf_7 rfl ?_
  refine sx_iadd (pc2 := 11) hX d_Mo_lotOf_10 rfl ?_
  refine sx_sipush (v := 229) (pc2 := 14) hX d_Mo_lotOf_11 (by decide) rfl ?_
  refine cl_Mo_240 (pc2 := 17) hX hK h  ⟨Nat.le_of_ble_eq_true rfl, Nat.le_of_ble_eq_true rfl⟩ (Nat.le_of_ble_eq_true rfl) d_Mo_lotOf_14 rfl (fun r2 σ2 τ2 h => ?_)
  refine sx_iload_n (pc2 := 18) hX 1 d_Mo_lotOf_17 rfl rfl rfl ?_
  refine cl_Mo_240 (pc2 := 21) hX hK h  ⟨Nat.le_of_ble_eq_true rfl, Nat.le_of_ble_eq_true rfl⟩ (Nat.le_of_ble_eq_true rfl) d_Mo_lotOf_18 rfl (fun r3 σ3 τ3 h => ?_)
  refine sx_iconst (v := 1) (pc2 := 22) hX d_Mo_lotOf_21 (by decide) rfl ?_
  refine sx_iushr (pc2 := 23) hX d_Mo_lotOf_22 rfl ?_
  refine sx_iload_n (pc2 := 24) hX 2 d_Mo_lotOf_23 rfl rfl rfl ?_
  obtain ⟨hc4, h⟩ := h
  refine sx_irem (pc2 := 25) hX d_Mo_lotOf_24 hc4 rfl ?_
  exact sx_iret hX hE h d_Mo_lotOf_25
theorem cl_Mo_243 {X : sx_T} {K : sx_K} {cc : ByteArray} {nL : Nat} {ret : Option FieldType} {rm : Room} {l : Launch} {pc pc2 : Nat} {lv : List (Nat × Value)} {st : List Value} {σ : sx_M} {τ : sx_L} {x1 : Int32} {x2 : Int32} {Q : Int32 → sx_M → sx_L → Prop} (hX : sx_C X K cc nL "SensorTreeModel" ret rm l) (hK : kx_F K) (h : wp_Mo_lotOf x1 x2 σ τ Q)  (hR : rm_Mo_lotOf.frames + 1 ≤ rm.frames ∧ 8 + (3 + 11) + rm_Mo_lotOf.locals ≤ rm.locals) (hst : (st.map fun v => v.category).sum ≤ 8) (hd : decode cc pc = .ok (.invokevirtual 243, 3)) (hpc : pc + 3 = pc2) (kk : ∀ (r : Int32) (σ2 : sx_M) (τ2 : sx_L), Q r σ2 τ2 → sx_G X K nL pc2 lv (.int r :: st) (sx_H K σ2 τ2)) : sx_G X K nL pc lv (.int x2 :: .int x1 :: .ref (K.2.2.1 50 0 0) :: st) (sx_H K σ τ) :=
  sx_callVi (Q := Q) (As := [.int x1, .int x2]) hX (c_Mo_lotOf hK x1 x2 σ τ Q  h) (kr_50 hK) rfl rfl lk_436 ls_43 hy_Mo_lotOf lk_434 lk_364 lk_435 ⟨rfl, rfl⟩ hR hst rfl hd hpc kk
def y_Mo_starts : MethodName := ⟨"SensorTreeModel", "starts", "(II)V"⟩
theorem hy_Mo_starts : y_Mo_starts.cls ≠ "java/lang/invoke/MethodHandle" ∧ y_Mo_starts.cls ≠ "java/lang/invoke/VarHandle" ∧ (parseMethodDescriptor y_Mo_starts.desc).map (fun d => d.parameters.length) = some 2 := by decide +kernel
theorem d_Mo_starts_0 : decode prog_13_method_44_code 0 = .ok (.aload_n 0, 1) := by decide +kernel
theorem d_Mo_starts_1 : decode prog_13_method_44_code 1 = .ok (.iload_n 1, 1) := by decide +kernel
theorem d_Mo_starts_2 : decode prog_13_method_44_code 2 = .ok (.bipush 6, 2) := by decide +kernel
theorem d_Mo_starts_4 : decode prog_13_method_44_code 4 = .ok (.iload_n 2, 1) := by decide +kernel
theorem d_Mo_starts_5 : decode prog_13_method_44_code 5 = .ok (.invokevirtual 229, 3) := by decide +kernel
theorem d_Mo_starts_8 : decode prog_13_method_44_code 8 = .ok (.aload_n 0, 1) := by decide +kernel
theorem d_Mo_starts_9 : decode prog_13_method_44_code 9 = .ok (.iload_n 1, 1) := by decide +kernel
theorem d_Mo_starts_10 : decode prog_13_method_44_code 10 = .ok (.bipush 7, 2) := by decide +kernel
theorem d_Mo_starts_12 : decode prog_13_method_44_code 12 = .ok (.iconst 0, 1) := by decide +kernel
theorem d_Mo_starts_13 : decode prog_13_method_44_code 13 = .ok (.invokevirtual 229, 3) := by decide +kernel
theorem d_Mo_starts_16 : decode prog_13_method_44_code 16 = .ok (.aload_n 0, 1) := by decide +kernel
theorem d_Mo_starts_17 : decode prog_13_method_44_code 17 = .ok (.iload_n 1, 1) := by decide +kernel
theorem d_Mo_starts_18 : decode prog_13_method_44_code 18 = .ok (.bipush 8, 2) := by decide +kernel
theorem d_Mo_starts_20 : decode prog_13_method_44_code 20 = .ok (.iconst 0, 1) := by decide +kernel
theorem d_Mo_starts_21 : decode prog_13_method_44_code 21 = .ok (.invokevirtual 229, 3) := by decide +kernel
theorem d_Mo_starts_24 : decode prog_13_method_44_code 24 = .ok (.aload_n 0, 1) := by decide +kernel
theorem d_Mo_starts_25 : decode prog_13_method_44_code 25 = .ok (.iload_n 1, 1) := by decide +kernel
theorem d_Mo_starts_26 : decode prog_13_method_44_code 26 = .ok (.bipush 9, 2) := by decide +kernel
theorem d_Mo_starts_28 : decode prog_13_method_44_code 28 = .ok (.iload_n 2, 1) := by decide +kernel
theorem d_Mo_starts_29 : decode prog_13_method_44_code 29 = .ok (.iconst 2, 1) := by decide +kernel
theorem d_Mo_starts_30 : decode prog_13_method_44_code 30 = .ok (.idiv, 1) := by decide +kernel
theorem d_Mo_starts_31 : decode prog_13_method_44_code 31 = .ok (.aload_n 0, 1) := by decide +kernel
theorem d_Mo_starts_32 : decode prog_13_method_44_code 32 = .ok (.bipush 8, 2) := by decide +kernel
theorem d_Mo_starts_34 : decode prog_13_method_44_code 34 = .ok (.aload_n 0, 1) := by decide +kernel
theorem d_Mo_starts_35 : decode prog_13_method_44_code 35 = .ok (.getfield 71, 3) := by decide +kernel
theorem d_Mo_starts_38 : decode prog_13_method_44_code 38 = .ok (.iconst 0, 1) := by decide +kernel
theorem d_Mo_starts_39 : decode prog_13_method_44_code 39 = .ok (.iaload, 1) := by decide +kernel
theorem d_Mo_starts_40 : decode prog_13_method_44_code 40 = .ok (.imul, 1) := by decide +kernel
theorem d_Mo_starts_41 : decode prog_13_method_44_code 41 = .ok (.iload_n 1, 1) := by decide +kernel
theorem d_Mo_starts_42 : decode prog_13_method_44_code 42 = .ok (.iadd, 1) := by decide +kernel
theorem d_Mo_starts_43 : decode prog_13_method_44_code 43 = .ok (.iload_n 2, 1) := by decide +kernel
theorem d_Mo_starts_44 : decode prog_13_method_44_code 44 = .ok (.iconst 2, 1) := by decide +kernel
theorem d_Mo_starts_45 : decode prog_13_method_44_code 45 = .ok (.idiv, 1) := by decide +kernel
theorem d_Mo_starts_46 : decode prog_13_method_44_code 46 = .ok (.invokevirtual 243, 3) := by decide +kernel
theorem d_Mo_starts_49 : decode prog_13_method_44_code 49 = .ok (.iadd, 1) := by decide +kernel
theorem d_Mo_starts_50 : decode prog_13_method_44_code 50 = .ok (.invokevirtual 229, 3) := by decide +kernel
theorem d_Mo_starts_53 : decode prog_13_method_44_code 53 = .ok (.return_, 1) := by decide +kernel
def wp_Mo_starts (x1 : Int32) (x2 : Int32) (σ : sx_M) (τ : sx_L) (Q : sx_M → sx_L → Prop) : Prop := wp_Mo_keeps x1 (6 : Int32) x2 σ τ (fun σ1 τ1 => wp_Mo_keeps x1 (7 : Int32) (0 : Int32) σ1 τ1 (fun σ2 τ2 => wp_Mo_keeps x1 (8 : Int32) (0 : Int32) σ2 τ2 (fun σ3 τ3 => vp_in 0 643 ∧ (wp_Mo_lotOf ((8 * (σ3 68 0 0 (0 : Int32).toNatClampNeg)) + x1) (x2 / 2) σ3 τ3 (fun r5 σ5 τ5 => wp_Mo_keeps x1 (9 : Int32) ((x2 / 2) + r5) σ5 τ5 (fun σ6 τ6 => Q σ6 τ6))))))
abbrev rm_Mo_starts : Room := { frames := 2, cells := 0, slots := 0, locals := 44 }
set_option maxRecDepth 100000 in
set_option maxHeartbeats 4000000 in
theorem c_Mo_starts {l : Launch} {K : sx_K} (hK : kx_F K) (x1 : Int32) (x2 : Int32) (σ : sx_M) (τ : sx_L) (Q : sx_M → sx_L → Prop)  (h : wp_Mo_starts x1 x2 σ τ Q) : Met l y_Mo_starts (sx_wd y_Mo_starts prog_13_method_44_code 3 none) rm_Mo_starts (sx_Pc K [.ref (K.2.2.1 50 0 0), .int x1, .int x2] σ τ) (sx_Qv K Q) 0 0 (sx_A K) := by
  refine sx_met (by decide) (Nat.le_of_ble_eq_true rfl) (fun X hX hE => ?_)
  replace hX : sx_C X K prog_13_method_44_code 3 "SensorTreeModel" none rm_Mo_starts l := hX
  show sx_G X K 3 0 [(0, .ref (K.2.2.1 50 0 0)), (1, .int x1), (2, .int x2)] [] (sx_H K σ τ)
  unfold wp_Mo_starts at h
  refine sx_aload_n (pc2 := 1) hX 0 d_Mo_starts_0 rfl rfl rfl ?_
  refine sx_iload_n (pc2 := 2) hX 1 d_Mo_starts_1 rfl rfl rfl ?_
  refine sx_bipush (v := 6) (pc2 := 4) hX d_Mo_starts_2 (by decide) rfl ?_
  refine sx_iload_n (pc2 := 5) hX 2 d_Mo_starts_4 rfl rfl rfl ?_
  refine cl_Mo_229 (pc2 := 8) hX hK h  ⟨Nat.le_of_ble_eq_true rfl, Nat.le_of_ble_eq_true rfl⟩ (Nat.le_of_ble_eq_true rfl) d_Mo_starts_5 rfl (fun σ1 τ1 h => ?_)
  refine sx_aload_n (pc2 := 9) hX 0 d_Mo_starts_8 rfl rfl rfl ?_
  refine sx_iload_n (pc2 := 10) hX 1 d_Mo_starts_9 rfl rfl rfl ?_
  refine sx_bipush (v := 7) (pc2 := 12) hX d_Mo_starts_10 (by decide) rfl ?_
  refine sx_iconst (v := 0) (pc2 := 13) hX d_Mo_starts_12 (by decide) rfl ?_
  refine cl_Mo_229 (pc2 := 16) hX hK h  ⟨Nat.le_of_ble_eq_true rfl, Nat.le_of_ble_eq_true rfl⟩ (Nat.le_of_ble_eq_true rfl) d_Mo_starts_13 rfl (fun σ2 τ2 h => ?_)
  refine sx_aload_n (pc2 := 17) hX 0 d_Mo_starts_16 rfl rfl rfl ?_
  refine sx_iload_n (pc2 := 18) hX 1 d_Mo_starts_17 rfl rfl rfl ?_
  refine sx_bipush (v := 8) (pc2 := 20) hX d_Mo_starts_18 (by decide) rfl ?_
  refine sx_iconst (v := 0) (pc2 := 21) hX d_Mo_starts_20 (by decide) rfl ?_
  refine cl_Mo_229 (pc2 := 24) hX hK h  ⟨Nat.le_of_ble_eq_true rfl, Nat.le_of_ble_eq_true rfl⟩ (Nat.le_of_ble_eq_true rfl) d_Mo_starts_21 rfl (fun σ3 τ3 h => ?_)
  refine sx_aload_n (pc2 := 25) hX 0 d_Mo_starts_24 rfl rfl rfl ?_
  refine sx_iload_n (pc2 := 26) hX 1 d_Mo_starts_25 rfl rfl rfl ?_
  refine sx_bipush (v := 9) (pc2 := 28) hX d_Mo_starts_26 (by decide) rfl ?_
  refine sx_iload_n (pc2 := 29) hX 2 d_Mo_starts_28 rfl rfl rfl ?_
  refine sx_iconst (v := 2) (pc2 := 30) hX d_Mo_starts_29 (by decide) rfl ?_
  refine sx_idiv (pc2 := 31) hX d_Mo_starts_30 (by decide) rfl ?_
  refine sx_aload_n (pc2 := 32) hX 0 d_Mo_starts_31 rfl rfl rfl ?_
  refine sx_bipush (v := 8) (pc2 := 34) hX d_Mo_starts_32 (by decide) rfl ?_
  refine sx_aload_n (pc2 := 35) hX 0 d_Mo_starts_34 rfl rfl rfl ?_
  refine fg_Mo_71 (pc2 := 38) hX (kr_50 hK) d_Mo_starts_35 rfl ?_
  refine sx_iconst (v := 0) (pc2 := 39) hX d_Mo_starts_38 (by decide) rfl ?_
  obtain ⟨hc4, h⟩ := h
  refine sx_iald (pc2 := 40) hX (kr_68 hK) rfl hc4 d_Mo_starts_39 rfl ?_
  refine sx_imul (pc2 := 41) hX d_Mo_starts_40 rfl ?_
  refine sx_iload_n (pc2 := 42) hX 1 d_Mo_starts_41 rfl rfl rfl ?_
  refine sx_iadd (pc2 := 43) hX d_Mo_starts_42 rfl ?_
  refine sx_iload_n (pc2 := 44) hX 2 d_Mo_starts_43 rfl rfl rfl ?_
  refine sx_iconst (v := 2) (pc2 := 45) hX d_Mo_starts_44 (by decide) rfl ?_
  refine sx_idiv (pc2 := 46) hX d_Mo_starts_45 (by decide) rfl ?_
  refine cl_Mo_243 (pc2 := 49) hX hK h  ⟨Nat.le_of_ble_eq_true rfl, Nat.le_of_ble_eq_true rfl⟩ (Nat.le_of_ble_eq_true rfl) d_Mo_starts_46 rfl (fun r5 σ5 τ5 h => ?_)
  refine sx_iadd (pc2 := 50) hX d_Mo_starts_49 rfl ?_
  refine cl_Mo_229 (pc2 := 53) hX hK h  ⟨Nat.le_of_ble_eq_true rfl, Nat.le_of_ble_eq_true rfl⟩ (Nat.le_of_ble_eq_true rfl) d_Mo_starts_50 rfl (fun σ6 τ6 h => ?_)
  exact sx_vret hX hE h d_Mo_starts_53
theorem cl_Mo_236 {X : sx_T} {K : sx_K} {cc : ByteArray} {nL : Nat} {ret : Option FieldType} {rm : Room} {l : Launch} {pc pc2 : Nat} {lv : List (Nat × Value)} {st : List Value} {σ : sx_M} {τ : sx_L} {x1 : Int32} {x2 : Int32} {Q : sx_M → sx_L → Prop} (hX : sx_C X K cc nL "SensorTreeModel" ret rm l) (hK : kx_F K) (h : wp_Mo_starts x1 x2 σ τ Q)  (hR : rm_Mo_starts.frames + 1 ≤ rm.frames ∧ 8 + (3 + 11) + rm_Mo_starts.locals ≤ rm.locals) (hst : (st.map fun v => v.category).sum ≤ 8) (hd : decode cc pc = .ok (.invokevirtual 236, 3)) (hpc : pc + 3 = pc2) (kk : ∀ (σ2 : sx_M) (τ2 : sx_L), Q σ2 τ2 → sx_G X K nL pc2 lv (st) (sx_H K σ2 τ2)) : sx_G X K nL pc lv (.int x2 :: .int x1 :: .ref (K.2.2.1 50 0 0) :: st) (sx_H K σ τ) :=
  sx_callVv (Q := Q) (As := [.int x1, .int x2]) hX (c_Mo_starts hK x1 x2 σ τ Q  h) (kr_50 hK) rfl rfl lk_439 ls_42 hy_Mo_starts lk_437 lk_364 lk_438 ⟨rfl, rfl⟩ hR hst rfl hd hpc kk
def y_Mo_asAtFirst : MethodName := ⟨"SensorTreeModel", "asAtFirst", "(I)V"⟩
theorem hy_Mo_asAtFirst : y_Mo_asAtFirst.cls ≠ "java/lang/invoke/MethodHandle" ∧ y_Mo_asAtFirst.cls ≠ "java/lang/invoke/VarHandle" ∧ (parseMethodDescriptor y_Mo_asAtFirst.desc).map (fun d => d.parameters.length) = some 1 := by decide +kernel
theorem d_Mo_asAtFirst_0 : decode prog_13_method_41_code 0 = .ok (.aload_n 0, 1) := by decide +kernel
theorem d_Mo_asAtFirst_1 : decode prog_13_method_41_code 1 = .ok (.iload_n 1, 1) := by decide +kernel
theorem d_Mo_asAtFirst_2 : decode prog_13_method_41_code 2 = .ok (.iconst 0, 1) := by decide +kernel
theorem d_Mo_asAtFirst_3 : decode prog_13_method_41_code 3 = .ok (.iconst 0, 1) := by decide +kernel
theorem d_Mo_asAtFirst_4 : decode prog_13_method_41_code 4 = .ok (.invokevirtual 229, 3) := by decide +kernel
theorem d_Mo_asAtFirst_7 : decode prog_13_method_41_code 7 = .ok (.aload_n 0, 1) := by decide +kernel
theorem d_Mo_asAtFirst_8 : decode prog_13_method_41_code 8 = .ok (.iload_n 1, 1) := by decide +kernel
theorem d_Mo_asAtFirst_9 : decode prog_13_method_41_code 9 = .ok (.iconst 1, 1) := by decide +kernel
theorem d_Mo_asAtFirst_10 : decode prog_13_method_41_code 10 = .ok (.iload_n 1, 1) := by decide +kernel
theorem d_Mo_asAtFirst_11 : decode prog_13_method_41_code 11 = .ok (.ifCond .ne 8, 3) := by decide +kernel
theorem d_Mo_asAtFirst_14 : decode prog_13_method_41_code 14 = .ok (.bipush 10, 2) := by decide +kernel
theorem d_Mo_asAtFirst_16 : decode prog_13_method_41_code 16 = .ok (.goto 6, 3) := by decide +kernel
theorem d_Mo_asAtFirst_19 : decode prog_13_method_41_code 19 = .ok (.sipush 9999, 3) := by decide +kernel
theorem d_Mo_asAtFirst_22 : decode prog_13_method_41_code 22 = .ok (.invokevirtual 229, 3) := by decide +kernel
theorem d_Mo_asAtFirst_25 : decode prog_13_method_41_code 25 = .ok (.aload_n 0, 1) := by decide +kernel
theorem d_Mo_asAtFirst_26 : decode prog_13_method_41_code 26 = .ok (.iload_n 1, 1) := by decide +kernel
theorem d_Mo_asAtFirst_27 : decode prog_13_method_41_code 27 = .ok (.iconst 2, 1) := by decide +kernel
theorem d_Mo_asAtFirst_28 : decode prog_13_method_41_code 28 = .ok (.bipush (-2), 2) := by decide +kernel
theorem d_Mo_asAtFirst_30 : decode prog_13_method_41_code 30 = .ok (.invokevirtual 229, 3) := by decide +kernel
theorem d_Mo_asAtFirst_33 : decode prog_13_method_41_code 33 = .ok (.aload_n 0, 1) := by decide +kernel
theorem d_Mo_asAtFirst_34 : decode prog_13_method_41_code 34 = .ok (.iload_n 1, 1) := by decide +kernel
theorem d_Mo_asAtFirst_35 : decode prog_13_method_41_code 35 = .ok (.iconst 3, 1) := by decide +kernel
theorem d_Mo_asAtFirst_36 : decode prog_13_method_41_code 36 = .ok (.sipush 9999, 3) := by decide +kernel
theorem d_Mo_asAtFirst_39 : decode prog_13_method_41_code 39 = .ok (.invokevirtual 229, 3) := by decide +kernel
theorem d_Mo_asAtFirst_42 : decode prog_13_method_41_code 42 = .ok (.aload_n 0, 1) := by decide +kernel
theorem d_Mo_asAtFirst_43 : decode prog_13_method_41_code 43 = .ok (.iload_n 1, 1) := by decide +kernel
theorem d_Mo_asAtFirst_44 : decode prog_13_method_41_code 44 = .ok (.iconst 4, 1) := by decide +kernel
theorem d_Mo_asAtFirst_45 : decode prog_13_method_41_code 45 = .ok (.iconst 0, 1) := by decide +kernel
theorem d_Mo_asAtFirst_46 : decode prog_13_method_41_code 46 = .ok (.invokevirtual 229, 3) := by decide +kernel
theorem d_Mo_asAtFirst_49 : decode prog_13_method_41_code 49 = .ok (.iconst 0, 1) := by decide +kernel
theorem d_Mo_asAtFirst_50 : decode prog_13_method_41_code 50 = .ok (.istore_n 2, 1) := by decide +kernel
theorem d_Mo_asAtFirst_51 : decode prog_13_method_41_code 51 = .ok (.iload_n 2, 1) := by decide +kernel
theorem d_Mo_asAtFirst_52 : decode prog_13_method_41_code 52 = .ok (.bipush 7, 2) := by decide +kernel
theorem d_Mo_asAtFirst_54 : decode prog_13_method_41_code 54 = .ok (.if_icmp .ge 59, 3) := by decide +kernel
theorem d_Mo_asAtFirst_57 : decode prog_13_method_41_code 57 = .ok (.aload_n 0, 1) := by decide +kernel
theorem d_Mo_asAtFirst_58 : decode prog_13_method_41_code 58 = .ok (.getfield 71, 3) := by decide +kernel
theorem d_Mo_asAtFirst_61 : decode prog_13_method_41_code 61 = .ok (.bipush 96, 2) := by decide +kernel
theorem d_Mo_asAtFirst_63 : decode prog_13_method_41_code 63 = .ok (.bipush 7, 2) := by decide +kernel
theorem d_Mo_asAtFirst_65 : decode prog_13_method_41_code 65 = .ok (.iload_n 1, 1) := by decide +kernel
theorem d_Mo_asAtFirst_66 : decode prog_13_method_41_code 66 = .ok (.imul, 1) := by decide +kernel
theorem d_Mo_asAtFirst_67 : decode prog_13_method_41_code 67 = .ok (.iadd, 1) := by decide +kernel
theorem d_Mo_asAtFirst_68 : decode prog_13_method_41_code 68 = .ok (.iload_n 2, 1) := by decide +kernel
theorem d_Mo_asAtFirst_69 : decode prog_13_method_41_code 69 = .ok (.iadd, 1) := by decide +kernel
theorem d_Mo_asAtFirst_70 : decode prog_13_method_41_code 70 = .ok (.sipush 9999, 3) := by decide +kernel
theorem d_Mo_asAtFirst_73 : decode prog_13_method_41_code 73 = .ok (.iastore, 1) := by decide +kernel
theorem d_Mo_asAtFirst_74 : decode prog_13_method_41_code 74 = .ok (.aload_n 0, 1) := by decide +kernel
theorem d_Mo_asAtFirst_75 : decode prog_13_method_41_code 75 = .ok (.getfield 71, 3) := by decide +kernel
theorem d_Mo_asAtFirst_78 : decode prog_13_method_41_code 78 = .ok (.sipush 145, 3) := by decide +kernel
theorem d_Mo_asAtFirst_81 : decode prog_13_method_41_code 81 = .ok (.bipush 7, 2) := by decide +kernel
theorem d_Mo_asAtFirst_83 : decode prog_13_method_41_code 83 = .ok (.iload_n 1, 1) := by decide +kernel
theorem d_Mo_asAtFirst_84 : decode prog_13_method_41_code 84 = .ok (.imul, 1) := by decide +kernel
theorem d_Mo_asAtFirst_85 : decode prog_13_method_41_code 85 = .ok (.iadd, 1) := by decide +kernel
theorem d_Mo_asAtFirst_86 : decode prog_13_method_41_code 86 = .ok (.iload_n 2, 1) := by decide +kernel
theorem d_Mo_asAtFirst_87 : decode prog_13_method_41_code 87 = .ok (.iadd, 1) := by decide +kernel
theorem d_Mo_asAtFirst_88 : decode prog_13_method_41_code 88 = .ok (.bipush (-2), 2) := by decide +kernel
theorem d_Mo_asAtFirst_90 : decode prog_13_method_41_code 90 = .ok (.iastore, 1) := by decide +kernel
theorem d_Mo_asAtFirst_91 : decode prog_13_method_41_code 91 = .ok (.aload_n 0, 1) := by decide +kernel
theorem d_Mo_asAtFirst_92 : decode prog_13_method_41_code 92 = .ok (.getfield 71, 3) := by decide +kernel
theorem d_Mo_asAtFirst_95 : decode prog_13_method_41_code 95 = .ok (.sipush 194, 3) := by decide +kernel
theorem d_Mo_asAtFirst_98 : decode prog_13_method_41_code 98 = .ok (.bipush 7, 2) := by decide +kernel
theorem d_Mo_asAtFirst_100 : decode prog_13_method_41_code 100 = .ok (.iload_n 1, 1) := by decide +kernel
theorem d_Mo_asAtFirst_101 : decode prog_13_method_41_code 101 = .ok (.imul, 1) := by decide +kernel
theorem d_Mo_asAtFirst_102 : decode prog_13_method_41_code 102 = .ok (.iadd, 1) := by decide +kernel
theorem d_Mo_asAtFirst_103 : decode prog_13_method_41_code 103 = .ok (.iload_n 2, 1) := by decide +kernel
theorem d_Mo_asAtFirst_104 : decode prog_13_method_41_code 104 = .ok (.iadd, 1) := by decide +kernel
theorem d_Mo_asAtFirst_105 : decode prog_13_method_41_code 105 = .ok (.iconst 0, 1) := by decide +kernel
theorem d_Mo_asAtFirst_106 : decode prog_13_method_41_code 106 = .ok (.iastore, 1) := by decide +kernel
theorem d_Mo_asAtFirst_107 : decode prog_13_method_41_code 107 = .ok (.iinc 2 1, 3) := by decide +kernel
theorem d_Mo_asAtFirst_110 : decode prog_13_method_41_code 110 = .ok (.goto (-59), 3) := by decide +kernel
theorem d_Mo_asAtFirst_113 : decode prog_13_method_41_code 113 = .ok (.aload_n 0, 1) := by decide +kernel
theorem d_Mo_asAtFirst_114 : decode prog_13_method_41_code 114 = .ok (.iload_n 1, 1) := by decide +kernel
theorem d_Mo_asAtFirst_115 : decode prog_13_method_41_code 115 = .ok (.aload_n 0, 1) := by decide +kernel
theorem d_Mo_asAtFirst_116 : decode prog_13_method_41_code 116 = .ok (.iconst 0, 1) := by decide +kernel
theorem d_Mo_asAtFirst_117 : decode prog_13_method_41_code 117 = .ok (.invokevirtual 233, 3) := by decide +kernel
theorem d_Mo_asAtFirst_120 : decode prog_13_method_41_code 120 = .ok (.invokevirtual 236, 3) := by decide +kernel
theorem d_Mo_asAtFirst_123 : decode prog_13_method_41_code 123 = .ok (.return_, 1) := by decide +kernel
def wp_Mo_asAtFirst_b51   (Q : sx_M → sx_L → Prop) : Nat → Int32 → Int32 → sx_M → sx_L → Prop
  | 0, _, _, _, _ => False
  | f + 1, v1, v2, σ, τ => if 7 ≤ v2 then (wp_Mo_setting (0 : Int32) σ τ (fun r2 σ2 τ2 => wp_Mo_starts v1 r2 σ2 τ2 (fun σ3 τ3 => Q σ3 τ3))) else (vp_in ((96 + (7 * v1)) + v2) 643 ∧ (∀ σ5 : sx_M, σ5 = sx_u σ 68 0 0 ((96 + (7 * v1)) + v2).toNatClampNeg 9999 → (vp_in ((145 + (7 * v1)) + v2) 643 ∧ (∀ σ7 : sx_M, σ7 = sx_u σ5 68 0 0 ((145 + (7 * v1)) + v2).toNatClampNeg (-2) → (vp_in ((194 + (7 * v1)) + v2) 643 ∧ (∀ σ9 : sx_M, σ9 = sx_u σ7 68 0 0 ((194 + (7 * v1)) + v2).toNatClampNeg 0 → (wp_Mo_asAtFirst_b51 Q f v1 (v2 + 1) σ9 τ)))))))
def wp_Mo_asAtFirst_b22   (Q : sx_M → sx_L → Prop) (v1 : Int32) (w1 : Int32) (w2 : Int32) (w3 : Int32) (σ : sx_M) (τ : sx_L) : Prop := wp_Mo_keeps w1 w2 w3 σ τ (fun σ10 τ10 => wp_Mo_keeps v1 (2 : Int32) (-2 : Int32) σ10 τ10 (fun σ11 τ11 => wp_Mo_keeps v1 (3 : Int32) (9999 : Int32) σ11 τ11 (fun σ12 τ12 => wp_Mo_keeps v1 (4 : Int32) (0 : Int32) σ12 τ12 (fun σ13 τ13 => ∃ f51, wp_Mo_asAtFirst_b51 Q f51 v1 0 σ13 τ13))))
def wp_Mo_asAtFirst (x1 : Int32) (σ : sx_M) (τ : sx_L) (Q : sx_M → sx_L → Prop) : Prop := wp_Mo_keeps x1 (0 : Int32) (0 : Int32) σ τ (fun σ14 τ14 => if x1 = 0 then (wp_Mo_asAtFirst_b22 Q x1 x1 1 10 σ14 τ14) else (wp_Mo_asAtFirst_b22 Q x1 x1 1 9999 σ14 τ14))
abbrev rm_Mo_asAtFirst : Room := { frames := 3, cells := 0, slots := 0, locals := 66 }
set_option maxRecDepth 100000 in
set_option maxHeartbeats 4000000 in
theorem g_Mo_asAtFirst_b51 {l : Launch} {K : sx_K} {X : sx_T}   {Q : sx_M → sx_L → Prop} (hX : sx_C X K prog_13_method_41_code 3 "SensorTreeModel" none rm_Mo_asAtFirst l) (hK : kx_F K) (hE : sx_E X K (sx_Qv K Q))  : ∀ (f : Nat) (v1 : Int32) (v2 : Int32) (σ : sx_M) (τ : sx_L) , wp_Mo_asAtFirst_b51 Q f v1 v2 σ τ → sx_G X K 3 51 [(0, .ref (K.2.2.1 50 0 0)), (1, .int v1), (2, .int v2)] [] (sx_H K σ τ) := by
  intro f
  induction f with
  | zero => intro v1 v2 σ τ h; exact (show False from h).elim
  | succ f ih =>
    intro v1 v2 σ τ h
    rw [wp_Mo_asAtFirst_b51] at h
    refine sx_iload_n (pc2 := 52) hX 2 d_Mo_asAtFirst_51 rfl rfl rfl ?_
    refine sx_bipush (v := 7) (pc2 := 54) hX d_Mo_asAtFirst_52 (by decide) rfl ?_
    refine sx_icmp_ge (tgt := 113) (pc2 := 57) hX d_Mo_asAtFirst_54 (by decide) rfl (fun hc1 => ?_) (fun hc1 => ?_)
    · replace h := sx_t h hc1
      refine sx_aload_n (pc2 := 114) hX 0 d_Mo_asAtFirst_113 rfl rfl rfl ?_
      refine sx_iload_n (pc2 := 115) hX 1 d_Mo_asAtFirst_114 rfl rfl rfl ?_
      refine sx_aload_n (pc2 := 116) hX 0 d_Mo_asAtFirst_115 rfl rfl rfl ?_
      refine sx_iconst (v := 0) (pc2 := 117) hX d_Mo_asAtFirst_116 (by decide) rfl ?_
      refine cl_Mo_233 (pc2 := 120) hX hK h  ⟨Nat.le_of_ble_eq_true rfl, Nat.le_of_ble_eq_true rfl⟩ (Nat.le_of_ble_eq_true rfl) d_Mo_asAtFirst_117 rfl (fun r2 σ2 τ2 h => ?_)
      refine cl_Mo_236 (pc2 := 123) hX hK h  ⟨Nat.le_of_ble_eq_true rfl, Nat.le_of_ble_eq_true rfl⟩ (Nat.le_of_ble_eq_true rfl) d_Mo_asAtFirst_120 rfl (fun σ3 τ3 h => ?_)
      exact sx_vret hX hE h d_Mo_asAtFirst_123
    · replace h := sx_f h hc1
      refine sx_aload_n (pc2 := 58) hX 0 d_Mo_asAtFirst_57 rfl rfl rfl ?_
      refine fg_Mo_71 (pc2 := 61) hX (kr_50 hK) d_Mo_asAtFirst_58 rfl ?_
      refine sx_bipush (v := 96) (pc2 := 63) hX d_Mo_asAtFirst_61 (by decide) rfl ?_
      refine sx_bipush (v := 7) (pc2 := 65) hX d_Mo_asAtFirst_63 (by decide) rfl ?_
      refine sx_iload_n (pc2 := 66) hX 1 d_Mo_asAtFirst_65 rfl rfl rfl ?_
      refine sx_imul (pc2 := 67) hX d_Mo_asAtFirst_66 rfl ?_
      refine sx_iadd (pc2 := 68) hX d_Mo_asAtFirst_67 rfl ?_
      refine sx_iload_n (pc2 := 69) hX 2 d_Mo_asAtFirst_68 rfl rfl rfl ?_
      refine sx_iadd (pc2 := 70) hX d_Mo_asAtFirst_69 rfl ?_
      refine sx_sipush (v := 9999) (pc2 := 73) hX d_Mo_asAtFirst_70 (by decide) rfl ?_
      obtain ⟨hc4, h⟩ := h
      refine sx_iast (pc2 := 74) hX (kr_68 hK) (fun _ => rfl) hc4 d_Mo_asAtFirst_73 rfl ?_
      refine sx_nm (fun σ5 e5 => ?_)
      replace h := h σ5 e5
      refine sx_aload_n (pc2 := 75) hX 0 d_Mo_asAtFirst_74 rfl rfl rfl ?_
      refine fg_Mo_71 (pc2 := 78) hX (kr_50 hK) d_Mo_asAtFirst_75 rfl ?_
      refine sx_sipush (v := 145) (pc2 := 81) hX d_Mo_asAtFirst_78 (by decide) rfl ?_
      refine sx_bipush (v := 7) (pc2 := 83) hX d_Mo_asAtFirst_81 (by decide) rfl ?_
      refine sx_iload_n (pc2 := 84) hX 1 d_Mo_asAtFirst_83 rfl rfl rfl ?_
      refine sx_imul (pc2 := 85) hX d_Mo_asAtFirst_84 rfl ?_
      refine sx_iadd (pc2 := 86) hX d_Mo_asAtFirst_85 rfl ?_
      refine sx_iload_n (pc2 := 87) hX 2 d_Mo_asAtFirst_86 rfl rfl rfl ?_
      refine sx_iadd (pc2 := 88) hX d_Mo_asAtFirst_87 rfl ?_
      refine sx_bipush (v := (-2)) (pc2 := 90) hX d_Mo_asAtFirst_88 (by decide) rfl ?_
      obtain ⟨hc6, h⟩ := h
      refine sx_iast (pc2 := 91) hX (kr_68 hK) (fun _ => rfl) hc6 d_Mo_asAtFirst_90 rfl ?_
      refine sx_nm (fun σ7 e7 => ?_)
      replace h := h σ7 e7
      refine sx_aload_n (pc2 := 92) hX 0 d_Mo_asAtFirst_91 rfl rfl rfl ?_
      refine fg_Mo_71 (pc2 := 95) hX (kr_50 hK) d_Mo_asAtFirst_92 rfl ?_
      refine sx_sipush (v := 194) (pc2 := 98) hX d_Mo_asAtFirst_95 (by decide) rfl ?_
      refine sx_bipush (v := 7) (pc2 := 100) hX d_Mo_asAtFirst_98 (by decide) rfl ?_
      refine sx_iload_n (pc2 := 101) hX 1 d_Mo_asAtFirst_100 rfl rfl rfl ?_
      refine sx_imul (pc2 := 102) hX d_Mo_asAtFirst_101 rfl ?_
      refine sx_iadd (pc2 := 103) hX d_Mo_asAtFirst_102 rfl ?_
      refine sx_iload_n (pc2 := 104) hX 2 d_Mo_asAtFirst_103 rfl rfl rfl ?_
      refine sx_iadd (pc2 := 105) hX d_Mo_asAtFirst_104 rfl ?_
      refine sx_iconst (v := 0) (pc2 := 106) hX d_Mo_asAtFirst_105 (by decide) rfl ?_
      obtain ⟨hc8, h⟩ := h
      refine sx_iast (pc2 := 107) hX (kr_68 hK) (fun _ => rfl) hc8 d_Mo_asAtFirst_106 rfl ?_
      refine sx_nm (fun σ9 e9 => ?_)
      replace h := h σ9 e9
      refine sx_iinc (pc2 := 110) hX 2 _ [(0, .ref (K.2.2.1 50 0 0)), (1, .int v1), (2, .int (v2 + 1))] [1, 2, 0] d_Mo_asAtFirst_107 rfl (v2 + 1) rfl (by decide) rfl rfl rfl ?_
      refine sx_goto (tgt := 51) hX d_Mo_asAtFirst_110 (by decide) ?_
      exact ih v1 (v2 + 1) _ _ h
set_option maxRecDepth 100000 in
set_option maxHeartbeats 4000000 in
theorem g_Mo_asAtFirst_b22 {l : Launch} {K : sx_K} {X : sx_T}   {Q : sx_M → sx_L → Prop} (hX : sx_C X K prog_13_method_41_code 3 "SensorTreeModel" none rm_Mo_asAtFirst l) (hK : kx_F K) (hE : sx_E X K (sx_Qv K Q))  (v1 : Int32) (w1 : Int32) (w2 : Int32) (w3 : Int32) (σ : sx_M) (τ : sx_L)  (h : wp_Mo_asAtFirst_b22 Q  v1 w1 w2 w3 σ τ) : sx_G X K 3 22 [(0, .ref (K.2.2.1 50 0 0)), (1, .int v1)] [.int w3, .int w2, .int w1, .ref (K.2.2.1 50 0 0)] (sx_H K σ τ) := by
  unfold wp_Mo_asAtFirst_b22 at h
  refine cl_Mo_229 (pc2 := 25) hX hK h  ⟨Nat.le_of_ble_eq_true rfl, Nat.le_of_ble_eq_true rfl⟩ (Nat.le_of_ble_eq_true rfl) d_Mo_asAtFirst_22 rfl (fun σ10 τ10 h => ?_)
  refine sx_aload_n (pc2 := 26) hX 0 d_Mo_asAtFirst_25 rfl rfl rfl ?_
  refine sx_iload_n (pc2 := 27) hX 1 d_Mo_asAtFirst_26 rfl rfl rfl ?_
  refine sx_iconst (v := 2) (pc2 := 28) hX d_Mo_asAtFirst_27 (by decide) rfl ?_
  refine sx_bipush (v := (-2)) (pc2 := 30) hX d_Mo_asAtFirst_28 (by decide) rfl ?_
  refine cl_Mo_229 (pc2 := 33) hX hK h  ⟨Nat.le_of_ble_eq_true rfl, Nat.le_of_ble_eq_true rfl⟩ (Nat.le_of_ble_eq_true rfl) d_Mo_asAtFirst_30 rfl (fun σ11 τ11 h => ?_)
  refine sx_aload_n (pc2 := 34) hX 0 d_Mo_asAtFirst_33 rfl rfl rfl ?_
  refine sx_iload_n (pc2 := 35) hX 1 d_Mo_asAtFirst_34 rfl rfl rfl ?_
  refine sx_iconst (v := 3) (pc2 := 36) hX d_Mo_asAtFirst_35 (by decide) rfl ?_
  refine sx_sipush (v := 9999) (pc2 := 39) hX d_Mo_asAtFirst_36 (by decide) rfl ?_
  refine cl_Mo_229 (pc2 := 42) hX hK h  ⟨Nat.le_of_ble_eq_true rfl, Nat.le_of_ble_eq_true rfl⟩ (Nat.le_of_ble_eq_true rfl) d_Mo_asAtFirst_39 rfl (fun σ12 τ12 h => ?_)
  refine sx_aload_n (pc2 := 43) hX 0 d_Mo_asAtFirst_42 rfl rfl rfl ?_
  refine sx_iload_n (pc2 := 44) hX 1 d_Mo_asAtFirst_43 rfl rfl rfl ?_
  refine sx_iconst (v := 4) (pc2 := 45) hX d_Mo_asAtFirst_44 (by decide) rfl ?_
  refine sx_iconst (v := 0) (pc2 := 46) hX d_Mo_asAtFirst_45 (by decide) rfl ?_
  refine cl_Mo_229 (pc2 := 49) hX hK h  ⟨Nat.le_of_ble_eq_true rfl, Nat.le_of_ble_eq_true rfl⟩ (Nat.le_of_ble_eq_true rfl) d_Mo_asAtFirst_46 rfl (fun σ13 τ13 h => ?_)
  refine sx_iconst (v := 0) (pc2 := 50) hX d_Mo_asAtFirst_49 (by decide) rfl ?_
  refine sx_istore_n (pc2 := 51) hX _ [(0, .ref (K.2.2.1 50 0 0)), (1, .int v1), (2, .int 0)] [1, 2, 0] d_Mo_asAtFirst_50 rfl (by decide) rfl rfl rfl ?_
  obtain ⟨f51, h⟩ := h
  exact g_Mo_asAtFirst_b51 hX hK hE   f51 v1 0 _ _ h
set_option maxRecDepth 100000 in
set_option maxHeartbeats 4000000 in
theorem c_Mo_asAtFirst {l : Launch} {K : sx_K} (hK : kx_F K) (x1 : Int32) (σ : sx_M) (τ : sx_L) (Q : sx_M → sx_L → Prop)  (h : wp_Mo_asAtFirst x1 σ τ Q) : Met l y_Mo_asAtFirst (sx_wd y_Mo_asAtFirst prog_13_method_41_code 3 none) rm_Mo_asAtFirst (sx_Pc K [.ref (K.2.2.1 50 0 0), .int x1] σ τ) (sx_Qv K Q) 0 0 (sx_A K) := by
  refine sx_met (by decide) (Nat.le_of_ble_eq_true rfl) (fun X hX hE => ?_)
  replace hX : sx_C X K prog_13_method_41_code 3 "SensorTreeModel" none rm_Mo_asAtFirst l := hX
  show sx_G X K 3 0 [(0, .ref (K.2.2.1 50 0 0)), (1, .int x1)] [] (sx_H K σ τ)
  unfold wp_Mo_asAtFirst at h
  refine sx_aload_n (pc2 := 1) hX 0 d_Mo_asAtFirst_0 rfl rfl rfl ?_
  refine sx_iload_n (pc2 := 2) hX 1 d_Mo_asAtFirst_1 rfl rfl rfl ?_
  refine sx_iconst (v := 0) (pc2 := 3) hX d_Mo_asAtFirst_2 (by decide) rfl ?_
  refine sx_iconst (v := 0) (pc2 := 4) hX d_Mo_asAtFirst_3 (by decide) rfl ?_
  refine cl_Mo_229 (pc2 := 7) hX hK h  ⟨Nat.le_of_ble_eq_true rfl, Nat.le_of_ble_eq_true rfl⟩ (Nat.le_of_ble_eq_true rfl) d_Mo_asAtFirst_4 rfl (fun σ14 τ14 h => ?_)
  refine sx_aload_n (pc2 := 8) hX 0 d_Mo_asAtFirst_7 rfl rfl rfl ?_
  refine sx_iload_n (pc2 := 9) hX 1 d_Mo_asAtFirst_8 rfl rfl rfl ?_
  refine sx_iconst (v := 1) (pc2 := 10) hX d_Mo_asAtFirst_9 (by decide) rfl ?_
  refine sx_iload_n (pc2 := 11) hX 1 d_Mo_asAtFirst_10 rfl rfl rfl ?_
  refine sx_if_ne (tgt := 19) (pc2 := 14) hX d_Mo_asAtFirst_11 (by decide) rfl (fun hc15 => ?_) (fun hc15 => ?_)
  · replace h := sx_f h hc15
    refine sx_sipush (v := 9999) (pc2 := 22) hX d_Mo_asAtFirst_19 (by decide) rfl ?_
    exact g_Mo_asAtFirst_b22 hX hK hE   x1 x1 1 9999 _ _ h
  · replace h := sx_t h hc15
    refine sx_bipush (v := 10) (pc2 := 16) hX d_Mo_asAtFirst_14 (by decide) rfl ?_
    refine sx_goto (tgt := 22) hX d_Mo_asAtFirst_16 (by decide) ?_
    exact g_Mo_asAtFirst_b22 hX hK hE   x1 x1 1 10 _ _ h
theorem cl_Mo_226 {X : sx_T} {K : sx_K} {cc : ByteArray} {nL : Nat} {ret : Option FieldType} {rm : Room} {l : Launch} {pc pc2 : Nat} {lv : List (Nat × Value)} {st : List Value} {σ : sx_M} {τ : sx_L} {x1 : Int32} {Q : sx_M → sx_L → Prop} (hX : sx_C X K cc nL "SensorTreeModel" ret rm l) (hK : kx_F K) (h : wp_Mo_asAtFirst x1 σ τ Q)  (hR : rm_Mo_asAtFirst.frames + 1 ≤ rm.frames ∧ 8 + (3 + 11) + rm_Mo_asAtFirst.locals ≤ rm.locals) (hst : (st.map fun v => v.category).sum ≤ 8) (hd : decode cc pc = .ok (.invokevirtual 226, 3)) (hpc : pc + 3 = pc2) (kk : ∀ (σ2 : sx_M) (τ2 : sx_L), Q σ2 τ2 → sx_G X K nL pc2 lv (st) (sx_H K σ2 τ2)) : sx_G X K nL pc lv (.int x1 :: .ref (K.2.2.1 50 0 0) :: st) (sx_H K σ τ) :=
  sx_callVv (Q := Q) (As := [.int x1]) hX (c_Mo_asAtFirst hK x1 σ τ Q  h) (kr_50 hK) rfl rfl lk_442 ls_39 hy_Mo_asAtFirst lk_440 lk_364 lk_441 ⟨rfl, rfl⟩ hR hst rfl hd hpc kk
def y_Mo_begins : MethodName := ⟨"SensorTreeModel", "begins", "()V"⟩
theorem hy_Mo_begins : y_Mo_begins.cls ≠ "java/lang/invoke/MethodHandle" ∧ y_Mo_begins.cls ≠ "java/lang/invoke/VarHandle" ∧ (parseMethodDescriptor y_Mo_begins.desc).map (fun d => d.parameters.length) = some 0 := by decide +kernel
theorem d_Mo_begins_0 : decode prog_13_method_40_code 0 = .ok (.iconst 0, 1) := by decide +kernel
theorem d_Mo_begins_1 : decode prog_13_method_40_code 1 = .ok (.istore_n 1, 1) := by decide +kernel
theorem d_Mo_begins_2 : decode prog_13_method_40_code 2 = .ok (.iload_n 1, 1) := by decide +kernel
theorem d_Mo_begins_3 : decode prog_13_method_40_code 3 = .ok (.sipush 243, 3) := by decide +kernel
theorem d_Mo_begins_6 : decode prog_13_method_40_code 6 = .ok (.if_icmp .ge 16, 3) := by decide +kernel
theorem d_Mo_begins_9 : decode prog_13_method_40_code 9 = .ok (.aload_n 0, 1) := by decide +kernel
theorem d_Mo_begins_10 : decode prog_13_method_40_code 10 = .ok (.getfield 71, 3) := by decide +kernel
theorem d_Mo_begins_13 : decode prog_13_method_40_code 13 = .ok (.iload_n 1, 1) := by decide +kernel
theorem d_Mo_begins_14 : decode prog_13_method_40_code 14 = .ok (.iconst 0, 1) := by decide +kernel
theorem d_Mo_begins_15 : decode prog_13_method_40_code 15 = .ok (.iastore, 1) := by decide +kernel
theorem d_Mo_begins_16 : decode prog_13_method_40_code 16 = .ok (.iinc 1 1, 3) := by decide +kernel
theorem d_Mo_begins_19 : decode prog_13_method_40_code 19 = .ok (.goto (-17), 3) := by decide +kernel
theorem d_Mo_begins_22 : decode prog_13_method_40_code 22 = .ok (.aload_n 0, 1) := by decide +kernel
theorem d_Mo_begins_23 : decode prog_13_method_40_code 23 = .ok (.iconst 0, 1) := by decide +kernel
theorem d_Mo_begins_24 : decode prog_13_method_40_code 24 = .ok (.putfield 223, 3) := by decide +kernel
theorem d_Mo_begins_27 : decode prog_13_method_40_code 27 = .ok (.aload_n 0, 1) := by decide +kernel
theorem d_Mo_begins_28 : decode prog_13_method_40_code 28 = .ok (.getfield 71, 3) := by decide +kernel
theorem d_Mo_begins_31 : decode prog_13_method_40_code 31 = .ok (.bipush 8, 2) := by decide +kernel
theorem d_Mo_begins_33 : decode prog_13_method_40_code 33 = .ok (.iconst 1, 1) := by decide +kernel
theorem d_Mo_begins_34 : decode prog_13_method_40_code 34 = .ok (.aload_n 0, 1) := by decide +kernel
theorem d_Mo_begins_35 : decode prog_13_method_40_code 35 = .ok (.getfield 43, 3) := by decide +kernel
theorem d_Mo_begins_38 : decode prog_13_method_40_code 38 = .ok (.aload_n 0, 1) := by decide +kernel
theorem d_Mo_begins_39 : decode prog_13_method_40_code 39 = .ok (.getfield 170, 3) := by decide +kernel
theorem d_Mo_begins_42 : decode prog_13_method_40_code 42 = .ok (.iaload, 1) := by decide +kernel
theorem d_Mo_begins_43 : decode prog_13_method_40_code 43 = .ok (.ishl, 1) := by decide +kernel
theorem d_Mo_begins_44 : decode prog_13_method_40_code 44 = .ok (.iconst 1, 1) := by decide +kernel
theorem d_Mo_begins_45 : decode prog_13_method_40_code 45 = .ok (.isub, 1) := by decide +kernel
theorem d_Mo_begins_46 : decode prog_13_method_40_code 46 = .ok (.iastore, 1) := by decide +kernel
theorem d_Mo_begins_47 : decode prog_13_method_40_code 47 = .ok (.aload_n 0, 1) := by decide +kernel
theorem d_Mo_begins_48 : decode prog_13_method_40_code 48 = .ok (.getfield 71, 3) := by decide +kernel
theorem d_Mo_begins_51 : decode prog_13_method_40_code 51 = .ok (.bipush 9, 2) := by decide +kernel
theorem d_Mo_begins_53 : decode prog_13_method_40_code 53 = .ok (.iconst 1, 1) := by decide +kernel
theorem d_Mo_begins_54 : decode prog_13_method_40_code 54 = .ok (.aload_n 0, 1) := by decide +kernel
theorem d_Mo_begins_55 : decode prog_13_method_40_code 55 = .ok (.getfield 40, 3) := by decide +kernel
theorem d_Mo_begins_58 : decode prog_13_method_40_code 58 = .ok (.aload_n 0, 1) := by decide +kernel
theorem d_Mo_begins_59 : decode prog_13_method_40_code 59 = .ok (.getfield 170, 3) := by decide +kernel
theorem d_Mo_begins_62 : decode prog_13_method_40_code 62 = .ok (.iaload, 1) := by decide +kernel
theorem d_Mo_begins_63 : decode prog_13_method_40_code 63 = .ok (.ishl, 1) := by decide +kernel
theorem d_Mo_begins_64 : decode prog_13_method_40_code 64 = .ok (.iconst 1, 1) := by decide +kernel
theorem d_Mo_begins_65 : decode prog_13_method_40_code 65 = .ok (.isub, 1) := by decide +kernel
theorem d_Mo_begins_66 : decode prog_13_method_40_code 66 = .ok (.iastore, 1) := by decide +kernel
theorem d_Mo_begins_67 : decode prog_13_method_40_code 67 = .ok (.iconst 0, 1) := by decide +kernel
theorem d_Mo_begins_68 : decode prog_13_method_40_code 68 = .ok (.istore_n 1, 1) := by decide +kernel
theorem d_Mo_begins_69 : decode prog_13_method_40_code 69 = .ok (.iload_n 1, 1) := by decide +kernel
theorem d_Mo_begins_70 : decode prog_13_method_40_code 70 = .ok (.aload_n 0, 1) := by decide +kernel
theorem d_Mo_begins_71 : decode prog_13_method_40_code 71 = .ok (.getfield 43, 3) := by decide +kernel
theorem d_Mo_begins_74 : decode prog_13_method_40_code 74 = .ok (.aload_n 0, 1) := by decide +kernel
theorem d_Mo_begins_75 : decode prog_13_method_40_code 75 = .ok (.getfield 170, 3) := by decide +kernel
theorem d_Mo_begins_78 : decode prog_13_method_40_code 78 = .ok (.iaload, 1) := by decide +kernel
theorem d_Mo_begins_79 : decode prog_13_method_40_code 79 = .ok (.if_icmp .ge 32, 3) := by decide +kernel
theorem d_Mo_begins_82 : decode prog_13_method_40_code 82 = .ok (.aload_n 0, 1) := by decide +kernel
theorem d_Mo_begins_83 : decode prog_13_method_40_code 83 = .ok (.getfield 71, 3) := by decide +kernel
theorem d_Mo_begins_86 : decode prog_13_method_40_code 86 = .ok (.bipush 10, 2) := by decide +kernel
theorem d_Mo_begins_88 : decode prog_13_method_40_code 88 = .ok (.iload_n 1, 1) := by decide +kernel
theorem d_Mo_begins_89 : decode prog_13_method_40_code 89 = .ok (.iadd, 1) := by decide +kernel
theorem d_Mo_begins_90 : decode prog_13_method_40_code 90 = .ok (.aload_n 0, 1) := by decide +kernel
theorem d_Mo_begins_91 : decode prog_13_method_40_code 91 = .ok (.getfield 55, 3) := by decide +kernel
theorem d_Mo_begins_94 : decode prog_13_method_40_code 94 = .ok (.bipush 16, 2) := by decide +kernel
theorem d_Mo_begins_96 : decode prog_13_method_40_code 96 = .ok (.aload_n 0, 1) := by decide +kernel
theorem d_Mo_begins_97 : decode prog_13_method_40_code 97 = .ok (.getfield 170, 3) := by decide +kernel
theorem d_Mo_begins_100 : decode prog_13_method_40_code 100 = .ok (.imul, 1) := by decide +kernel
theorem d_Mo_begins_101 : decode prog_13_method_40_code 101 = .ok (.iload_n 1, 1) := by decide +kernel
theorem d_Mo_begins_102 : decode prog_13_method_40_code 102 = .ok (.iadd, 1) := by decide +kernel
theorem d_Mo_begins_103 : decode prog_13_method_40_code 103 = .ok (.iaload, 1) := by decide +kernel
theorem d_Mo_begins_104 : decode prog_13_method_40_code 104 = .ok (.iastore, 1) := by decide +kernel
theorem d_Mo_begins_105 : decode prog_13_method_40_code 105 = .ok (.iinc 1 1, 3) := by decide +kernel
theorem d_Mo_begins_108 : decode prog_13_method_40_code 108 = .ok (.goto (-39), 3) := by decide +kernel
theorem d_Mo_begins_111 : decode prog_13_method_40_code 111 = .ok (.iconst 0, 1) := by decide +kernel
theorem d_Mo_begins_112 : decode prog_13_method_40_code 112 = .ok (.istore_n 1, 1) := by decide +kernel
theorem d_Mo_begins_113 : decode prog_13_method_40_code 113 = .ok (.iload_n 1, 1) := by decide +kernel
theorem d_Mo_begins_114 : decode prog_13_method_40_code 114 = .ok (.bipush 7, 2) := by decide +kernel
theorem d_Mo_begins_116 : decode prog_13_method_40_code 116 = .ok (.if_icmp .ge 14, 3) := by decide +kernel
theorem d_Mo_begins_119 : decode prog_13_method_40_code 119 = .ok (.aload_n 0, 1) := by decide +kernel
theorem d_Mo_begins_120 : decode prog_13_method_40_code 120 = .ok (.iload_n 1, 1) := by decide +kernel
theorem d_Mo_begins_121 : decode prog_13_method_40_code 121 = .ok (.invokevirtual 226, 3) := by decide +kernel
theorem d_Mo_begins_124 : decode prog_13_method_40_code 124 = .ok (.iinc 1 1, 3) := by decide +kernel
theorem d_Mo_begins_127 : decode prog_13_method_40_code 127 = .ok (.goto (-14), 3) := by decide +kernel
theorem d_Mo_begins_130 : decode prog_13_method_40_code 130 = .ok (.return_, 1) := by decide +kernel
def wp_Mo_begins_b113   (Q : sx_M → sx_L → Prop) : Nat → Int32 → sx_M → sx_L → Prop
  | 0, _, _, _ => False
  | f + 1, v1, σ, τ => if 7 ≤ v1 then (Q σ τ) else (wp_Mo_asAtFirst v1 σ τ (fun σ2 τ2 => wp_Mo_begins_b113 Q f (v1 + 1) σ2 τ2))
def wp_Mo_begins_b69   (Q : sx_M → sx_L → Prop) : Nat → Int32 → sx_M → sx_L → Prop
  | 0, _, _, _ => False
  | f + 1, v1, σ, τ => vp_in (σ 50 0 0 17) 2 ∧ (if σ 59 0 0 (σ 50 0 0 17).toNatClampNeg ≤ v1 then (∃ f113, wp_Mo_begins_b113 Q f113 0 σ τ) else (vp_in ((16 * (σ 50 0 0 17)) + v1) 32 ∧ (vp_in (10 + v1) 643 ∧ (∀ σ7 : sx_M, σ7 = sx_u σ 68 0 0 (10 + v1).toNatClampNeg (σ 63 0 0 ((16 * (σ 50 0 0 17)) + v1).toNatClampNeg) → (wp_Mo_begins_b69 Q f (v1 + 1) σ7 τ)))))
def wp_Mo_begins_b2   (Q : sx_M → sx_L → Prop) : Nat → Int32 → sx_M → sx_L → Prop
  | 0, _, _, _ => False
  | f + 1, v1, σ, τ => if 243 ≤ v1 then (∀ σ9 : sx_M, σ9 = sx_u σ 50 0 0 31 0 → (vp_in (σ9 50 0 0 17) 2 ∧ (vp_in 8 643 ∧ (∀ σ12 : sx_M, σ12 = sx_u σ9 68 0 0 (8 : Int32).toNatClampNeg ((1 <<< ((σ9 59 0 0 (σ9 50 0 0 17).toNatClampNeg) &&& 31)) - 1) → (vp_in (σ12 50 0 0 17) 2 ∧ (vp_in 9 643 ∧ (∀ σ15 : sx_M, σ15 = sx_u σ12 68 0 0 (9 : Int32).toNatClampNeg ((1 <<< ((σ12 58 0 0 (σ12 50 0 0 17).toNatClampNeg) &&& 31)) - 1) → (∃ f69, wp_Mo_begins_b69 Q f69 0 σ15 τ)))))))) else (vp_in v1 643 ∧ (∀ σ17 : sx_M, σ17 = sx_u σ 68 0 0 v1.toNatClampNeg 0 → (wp_Mo_begins_b2 Q f (v1 + 1) σ17 τ)))
def wp_Mo_begins  (σ : sx_M) (τ : sx_L) (Q : sx_M → sx_L → Prop) : Prop := ∃ f2, wp_Mo_begins_b2 Q f2 0 σ τ
abbrev rm_Mo_begins : Room := { frames := 4, cells := 0, slots := 0, locals := 88 }
set_option maxRecDepth 100000 in
set_option maxHeartbeats 4000000 in
theorem g_Mo_begins_b113 {l : Launch} {K : sx_K} {X : sx_T}   {Q : sx_M → sx_L → Prop} (hX : sx_C X K prog_13_method_40_code 2 "SensorTreeModel" none rm_Mo_begins l) (hK : kx_F K) (hE : sx_E X K (sx_Qv K Q))  : ∀ (f : Nat) (v1 : Int32) (σ : sx_M) (τ : sx_L) , wp_Mo_begins_b113 Q f v1 σ τ → sx_G X K 2 113 [(0, .ref (K.2.2.1 50 0 0)), (1, .int v1)] [] (sx_H K σ τ) := by
  intro f
  induction f with
  | zero => intro v1 σ τ h; exact (show False from h).elim
  | succ f ih =>
    intro v1 σ τ h
    rw [wp_Mo_begins_b113] at h
    refine sx_iload_n (pc2 := 114) hX 1 d_Mo_begins_113 rfl rfl rfl ?_
    refine sx_bipush (v := 7) (pc2 := 116) hX d_Mo_begins_114 (by decide) rfl ?_
    refine sx_icmp_ge (tgt := 130) (pc2 := 119) hX d_Mo_begins_116 (by decide) rfl (fun hc1 => ?_) (fun hc1 => ?_)
    · replace h := sx_t h hc1
      exact sx_vret hX hE h d_Mo_begins_130
    · replace h := sx_f h hc1
      refine sx_aload_n (pc2 := 120) hX 0 d_Mo_begins_119 rfl rfl rfl ?_
      refine sx_iload_n (pc2 := 121) hX 1 d_Mo_begins_120 rfl rfl rfl ?_
      refine cl_Mo_226 (pc2 := 124) hX hK h  ⟨Nat.le_of_ble_eq_true rfl, Nat.le_of_ble_eq_true rfl⟩ (Nat.le_of_ble_eq_true rfl) d_Mo_begins_121 rfl (fun σ2 τ2 h => ?_)
      refine sx_iinc (pc2 := 127) hX 1 _ [(0, .ref (K.2.2.1 50 0 0)), (1, .int (v1 + 1))] [1, 0] d_Mo_begins_124 rfl (v1 + 1) rfl (by decide) rfl rfl rfl ?_
      refine sx_goto (tgt := 113) hX d_Mo_begins_127 (by decide) ?_
      exact ih (v1 + 1) _ _ h
set_option maxRecDepth 100000 in
set_option maxHeartbeats 4000000 in
theorem g_Mo_begins_b69 {l : Launch} {K : sx_K} {X : sx_T}   {Q : sx_M → sx_L → Prop} (hX : sx_C X K prog_13_method_40_code 2 "SensorTreeModel" none rm_Mo_begins l) (hK : kx_F K) (hE : sx_E X K (sx_Qv K Q))  : ∀ (f : Nat) (v1 : Int32) (σ : sx_M) (τ : sx_L) , wp_Mo_begins_b69 Q f v1 σ τ → sx_G X K 2 69 [(0, .ref (K.2.2.1 50 0 0)), (1, .int v1)] [] (sx_H K σ τ) := by
  intro f
  induction f with
  | zero => intro v1 σ τ h; exact (show False from h).elim
  | succ f ih =>
    intro v1 σ τ h
    rw [wp_Mo_begins_b69] at h
    refine sx_iload_n (pc2 := 70) hX 1 d_Mo_begins_69 rfl rfl rfl ?_
    refine sx_aload_n (pc2 := 71) hX 0 d_Mo_begins_70 rfl rfl rfl ?_
    refine fg_Mo_43 (pc2 := 74) hX (kr_50 hK) d_Mo_begins_71 rfl ?_
    refine sx_aload_n (pc2 := 75) hX 0 d_Mo_begins_74 rfl rfl rfl ?_
    refine fg_Mo_170 (pc2 := 78) hX (kr_50 hK) d_Mo_begins_75 rfl ?_
    obtain ⟨hc3, h⟩ := h
    refine sx_iald (pc2 := 79) hX (kr_59 hK) rfl hc3 d_Mo_begins_78 rfl ?_
    refine sx_icmp_ge (tgt := 111) (pc2 := 82) hX d_Mo_begins_79 (by decide) rfl (fun hc4 => ?_) (fun hc4 => ?_)
    · replace h := sx_t h hc4
      refine sx_iconst (v := 0) (pc2 := 112) hX d_Mo_begins_111 (by decide) rfl ?_
      refine sx_istore_n (pc2 := 113) hX _ [(0, .ref (K.2.2.1 50 0 0)), (1, .int 0)] [1, 0] d_Mo_begins_112 rfl (by decide) rfl rfl rfl ?_
      obtain ⟨f113, h⟩ := h
      exact g_Mo_begins_b113 hX hK hE   f113 0 _ _ h
    · replace h := sx_f h hc4
      refine sx_aload_n (pc2 := 83) hX 0 d_Mo_begins_82 rfl rfl rfl ?_
      refine fg_Mo_71 (pc2 := 86) hX (kr_50 hK) d_Mo_begins_83 rfl ?_
      refine sx_bipush (v := 10) (pc2 := 88) hX d_Mo_begins_86 (by decide) rfl ?_
      refine sx_iload_n (pc2 := 89) hX 1 d_Mo_begins_88 rfl rfl rfl ?_
      refine sx_iadd (pc2 := 90) hX d_Mo_begins_89 rfl ?_
      refine sx_aload_n (pc2 := 91) hX 0 d_Mo_begins_90 rfl rfl rfl ?_
      refine fg_Mo_55 (pc2 := 94) hX (kr_50 hK) d_Mo_begins_91 rfl ?_
      refine sx_bipush (v := 16) (pc2 := 96) hX d_Mo_begins_94 (by decide) rfl ?_
      refine sx_aload_n (pc2 := 97) hX 0 d_Mo_begins_96 rfl rfl rfl ?_
      refine fg_Mo_170 (pc2 := 100) hX (kr_50 hK) d_Mo_begins_97 rfl ?_
      refine sx_imul (pc2 := 101) hX d_Mo_begins_100 rfl ?_
      refine sx_iload_n (pc2 := 102) hX 1 d_Mo_begins_101 rfl rfl rfl ?_
      refine sx_iadd (pc2 := 103) hX d_Mo_begins_102 rfl ?_
      obtain ⟨hc5, h⟩ := h
      refine sx_iald (pc2 := 104) hX (kr_63 hK) rfl hc5 d_Mo_begins_103 rfl ?_
      obtain ⟨hc6, h⟩ := h
      refine sx_iast (pc2 := 105) hX (kr_68 hK) (fun _ => rfl) hc6 d_Mo_begins_104 rfl ?_
      refine sx_nm (fun σ7 e7 => ?_)
      replace h := h σ7 e7
      refine sx_iinc (pc2 := 108) hX 1 _ [(0, .ref (K.2.2.1 50 0 0)), (1, .int (v1 + 1))] [1, 0] d_Mo_begins_105 rfl (v1 + 1) rfl (by decide) rfl rfl rfl ?_
      refine sx_goto (tgt := 69) hX d_Mo_begins_108 (by decide) ?_
      exact ih (v1 + 1) _ _ h
set_option maxRecDepth 100000 in
set_option maxHeartbeats 4000000 in
theorem g_Mo_begins_b2 {l : Launch} {K : sx_K} {X : sx_T}   {Q : sx_M → sx_L → Prop} (hX : sx_C X K prog_13_method_40_code 2 "SensorTreeModel" none rm_Mo_begins l) (hK : kx_F K) (hE : sx_E X K (sx_Qv K Q))  : ∀ (f : Nat) (v1 : Int32) (σ : sx_M) (τ : sx_L) , wp_Mo_begins_b2 Q f v1 σ τ → sx_G X K 2 2 [(0, .ref (K.2.2.1 50 0 0)), (1, .int v1)] [] (sx_H K σ τ) := by
  intro f
  induction f with
  | zero => intro v1 σ τ h; exact (show False from h).elim
  | succ f ih =>
    intro v1 σ τ h
    rw [wp_Mo_begins_b2] at h
    refine sx_iload_n (pc2 := 3) hX 1 d_Mo_begins_2 rfl rfl rfl ?_
    refine sx_sipush (v := 243) (pc2 := 6) hX d_Mo_begins_3 (by decide) rfl ?_
    refine sx_icmp_ge (tgt := 22) (pc2 := 9) hX d_Mo_begins_6 (by decide) rfl (fun hc8 => ?_) (fun hc8 => ?_)
    · replace h := sx_t h hc8
      refine sx_aload_n (pc2 := 23) hX 0 d_Mo_begins_22 rfl rfl rfl ?_
      refine sx_iconst (v := 0) (pc2 := 24) hX d_Mo_begins_23 (by decide) rfl ?_
      refine fp_Mo_223 (pc2 := 27) hX (kr_50 hK) d_Mo_begins_24 rfl ?_
      refine sx_nm (fun σ9 e9 => ?_)
      replace h := h σ9 e9
      refine sx_aload_n (pc2 := 28) hX 0 d_Mo_begins_27 rfl rfl rfl ?_
      refine fg_Mo_71 (pc2 := 31) hX (kr_50 hK) d_Mo_begins_28 rfl ?_
      refine sx_bipush (v := 8) (pc2 := 33) hX d_Mo_begins_31 (by decide) rfl ?_
      refine sx_iconst (v := 1) (pc2 := 34) hX d_Mo_begins_33 (by decide) rfl ?_
      refine sx_aload_n (pc2 := 35) hX 0 d_Mo_begins_34 rfl rfl rfl ?_
      refine fg_Mo_43 (pc2 := 38) hX (kr_50 hK) d_Mo_begins_35 rfl ?_
      refine sx_aload_n (pc2 := 39) hX 0 d_Mo_begins_38 rfl rfl rfl ?_
      refine fg_Mo_170 (pc2 := 42) hX (kr_50 hK) d_Mo_begins_39 rfl ?_
      obtain ⟨hc10, h⟩ := h
      refine sx_iald (pc2 := 43) hX (kr_59 hK) rfl hc10 d_Mo_begins_42 rfl ?_
      refine sx_ishl (pc2 := 44) hX d_Mo_begins_43 rfl ?_
      refine sx_iconst (v := 1) (pc2 := 45) hX d_Mo_begins_44 (by decide) rfl ?_
      refine sx_isub (pc2 := 46) hX d_Mo_begins_45 rfl ?_
      obtain ⟨hc11, h⟩ := h
      refine sx_iast (pc2 := 47) hX (kr_68 hK) (fun _ => rfl) hc11 d_Mo_begins_46 rfl ?_
      refine sx_nm (fun σ12 e12 => ?_)
      replace h := h σ12 e12
      refine sx_aload_n (pc2 := 48) hX 0 d_Mo_begins_47 rfl rfl rfl ?_
      refine fg_Mo_71 (pc2 := 51) hX (kr_50 hK) d_Mo_begins_48 rfl ?_
      refine sx_bipush (v := 9) (pc2 := 53) hX d_Mo_begins_51 (by decide) rfl ?_
      refine sx_iconst (v := 1) (pc2 := 54) hX d_Mo_begins_53 (by decide) rfl ?_
      refine sx_aload_n (pc2 := 55) hX 0 d_Mo_begins_54 rfl rfl rfl ?_
      refine fg_Mo_40 (pc2 := 58) hX (kr_50 hK) d_Mo_begins_55 rfl ?_
      refine sx_aload_n (pc2 := 59) hX 0 d_Mo_begins_58 rfl rfl rfl ?_
      refine fg_Mo_170 (pc2 := 62) hX (kr_50 hK) d_Mo_begins_59 rfl ?_
      obtain ⟨hc13, h⟩ := h
      refine sx_iald (pc2 := 63) hX (kr_58 hK) rfl hc13 d_Mo_begins_62 rfl ?_
      refine sx_ishl (pc2 := 64) hX d_Mo_begins_63 rfl ?_
      refine sx_iconst (v := 1) (pc2 := 65) hX d_Mo_begins_64 (by decide) rfl ?_
      refine sx_isub (pc2 := 66) hX d_Mo_begins_65 rfl ?_
      obtain ⟨hc14, h⟩ := h
      refine sx_iast (pc2 := 67) hX (kr_68 hK) (fun _ => rfl) hc14 d_Mo_begins_66 rfl ?_
      refine sx_nm (fun σ15 e15 => ?_)
      replace h := h σ15 e15
      refine sx_iconst (v := 0) (pc2 := 68) hX d_Mo_begins_67 (by decide) rfl ?_
      refine sx_istore_n (pc2 := 69) hX _ [(0, .ref (K.2.2.1 50 0 0)), (1, .int 0)] [1, 0] d_Mo_begins_68 rfl (by decide) rfl rfl rfl ?_
      obtain ⟨f69, h⟩ := h
      exact g_Mo_begins_b69 hX hK hE   f69 0 _ _ h
    · replace h := sx_f h hc8
      refine sx_aload_n (pc2 := 10) hX 0 d_Mo_begins_9 rfl rfl rfl ?_
      refine fg_Mo_71 (pc2 := 13) hX (kr_50 hK) d_Mo_begins_10 rfl ?_
      refine sx_iload_n (pc2 := 14) hX 1 d_Mo_begins_13 rfl rfl rfl ?_
      refine sx_iconst (v := 0) (pc2 := 15) hX d_Mo_begins_14 (by decide) rfl ?_
      obtain ⟨hc16, h⟩ := h
      refine sx_iast (pc2 := 16) hX (kr_68 hK) (fun _ => rfl) hc16 d_Mo_begins_15 rfl ?_
      refine sx_nm (fun σ17 e17 => ?_)
      replace h := h σ17 e17
      refine sx_iinc (pc2 := 19) hX 1 _ [(0, .ref (K.2.2.1 50 0 0)), (1, .int (v1 + 1))] [1, 0] d_Mo_begins_16 rfl (v1 + 1) rfl (by decide) rfl rfl rfl ?_
      refine sx_goto (tgt := 2) hX d_Mo_begins_19 (by decide) ?_
      exact ih (v1 + 1) _ _ h
set_option maxRecDepth 100000 in
set_option maxHeartbeats 4000000 in
theorem c_Mo_begins {l : Launch} {K : sx_K} (hK : kx_F K)  (σ : sx_M) (τ : sx_L) (Q : sx_M → sx_L → Prop)  (h : wp_Mo_begins σ τ Q) : Met l y_Mo_begins (sx_wd y_Mo_begins prog_13_method_40_code 2 none) rm_Mo_begins (sx_Pc K [.ref (K.2.2.1 50 0 0)] σ τ) (sx_Qv K Q) 0 0 (sx_A K) := by
  refine sx_met (by decide) (Nat.le_of_ble_eq_true rfl) (fun X hX hE => ?_)
  replace hX : sx_C X K prog_13_method_40_code 2 "SensorTreeModel" none rm_Mo_begins l := hX
  show sx_G X K 2 0 [(0, .ref (K.2.2.1 50 0 0))] [] (sx_H K σ τ)
  unfold wp_Mo_begins at h
  refine sx_iconst (v := 0) (pc2 := 1) hX d_Mo_begins_0 (by decide) rfl ?_
  refine sx_istore_n (pc2 := 2) hX _ [(0, .ref (K.2.2.1 50 0 0)), (1, .int 0)] [1, 0] d_Mo_begins_1 rfl (by decide) rfl rfl rfl ?_
  obtain ⟨f2, h⟩ := h
  exact g_Mo_begins_b2 hX hK hE   f2 0 _ _ h
theorem cl_Mo_100 {X : sx_T} {K : sx_K} {cc : ByteArray} {nL : Nat} {ret : Option FieldType} {rm : Room} {l : Launch} {pc pc2 : Nat} {lv : List (Nat × Value)} {st : List Value} {σ : sx_M} {τ : sx_L}  {Q : sx_M → sx_L → Prop} (hX : sx_C X K cc nL "SensorTreeModel" ret rm l) (hK : kx_F K) (h : wp_Mo_begins  σ τ Q)  (hR : rm_Mo_begins.frames + 1 ≤ rm.frames ∧ 8 + (2 + 11) + rm_Mo_begins.locals ≤ rm.locals) (hst : (st.map fun v => v.category).sum ≤ 8) (hd : decode cc pc = .ok (.invokevirtual 100, 3)) (hpc : pc + 3 = pc2) (kk : ∀ (σ2 : sx_M) (τ2 : sx_L), Q σ2 τ2 → sx_G X K nL pc2 lv (st) (sx_H K σ2 τ2)) : sx_G X K nL pc lv (.ref (K.2.2.1 50 0 0) :: st) (sx_H K σ τ) :=
  sx_callVv (Q := Q) (As := []) hX (c_Mo_begins hK  σ τ Q  h) (kr_50 hK) rfl rfl lk_448 ls_38 hy_Mo_begins lk_446 lk_364 lk_447 ⟨rfl, rfl⟩ hR hst rfl hd hpc kk
def y_Mo_lays2_row_now : MethodName := ⟨"SensorTreeModel", "lays", "([II[II)V"⟩
theorem hy_Mo_lays2_row_now : y_Mo_lays2_row_now.cls ≠ "java/lang/invoke/MethodHandle" ∧ y_Mo_lays2_row_now.cls ≠ "java/lang/invoke/VarHandle" ∧ (parseMethodDescriptor y_Mo_lays2_row_now.desc).map (fun d => d.parameters.length) = some 4 := by decide +kernel
theorem d_Mo_lays2_row_now_0 : decode prog_13_method_37_code 0 = .ok (.sipush 243, 3) := by decide +kernel
theorem d_Mo_lays2_row_now_3 : decode prog_13_method_37_code 3 = .ok (.iconst 2, 1) := by decide +kernel
theorem d_Mo_lays2_row_now_4 : decode prog_13_method_37_code 4 = .ok (.aload_n 0, 1) := by decide +kernel
theorem d_Mo_lays2_row_now_5 : decode prog_13_method_37_code 5 = .ok (.iload_n 1, 1) := by decide +kernel
theorem d_Mo_lays2_row_now_6 : decode prog_13_method_37_code 6 = .ok (.bipush 7, 2) := by decide +kernel
theorem d_Mo_lays2_row_now_8 : decode prog_13_method_37_code 8 = .ok (.iadd, 1) := by decide +kernel
theorem d_Mo_lays2_row_now_9 : decode prog_13_method_37_code 9 = .ok (.iaload, 1) := by decide +kernel
theorem d_Mo_lays2_row_now_10 : decode prog_13_method_37_code 10 = .ok (.imul, 1) := by decide +kernel
theorem d_Mo_lays2_row_now_11 : decode prog_13_method_37_code 11 = .ok (.iadd, 1) := by decide +kernel
theorem d_Mo_lays2_row_now_12 : decode prog_13_method_37_code 12 = .ok (.istore 4, 2) := by decide +kernel
theorem d_Mo_lays2_row_now_14 : decode prog_13_method_37_code 14 = .ok (.iconst 0, 1) := by decide +kernel
theorem d_Mo_lays2_row_now_15 : decode prog_13_method_37_code 15 = .ok (.istore 5, 2) := by decide +kernel
theorem d_Mo_lays2_row_now_17 : decode prog_13_method_37_code 17 = .ok (.iload 5, 2) := by decide +kernel
theorem d_Mo_lays2_row_now_19 : decode prog_13_method_37_code 19 = .ok (.iload 4, 2) := by decide +kernel
theorem d_Mo_lays2_row_now_21 : decode prog_13_method_37_code 21 = .ok (.if_icmp .ge 21, 3) := by decide +kernel
theorem d_Mo_lays2_row_now_24 : decode prog_13_method_37_code 24 = .ok (.aload_n 2, 1) := by decide +kernel
theorem d_Mo_lays2_row_now_25 : decode prog_13_method_37_code 25 = .ok (.iload_n 3, 1) := by decide +kernel
theorem d_Mo_lays2_row_now_26 : decode prog_13_method_37_code 26 = .ok (.iload 5, 2) := by decide +kernel
theorem d_Mo_lays2_row_now_28 : decode prog_13_method_37_code 28 = .ok (.iadd, 1) := by decide +kernel
theorem d_Mo_lays2_row_now_29 : decode prog_13_method_37_code 29 = .ok (.aload_n 0, 1) := by decide +kernel
theorem d_Mo_lays2_row_now_30 : decode prog_13_method_37_code 30 = .ok (.iload_n 1, 1) := by decide +kernel
theorem d_Mo_lays2_row_now_31 : decode prog_13_method_37_code 31 = .ok (.iload 5, 2) := by decide +kernel
theorem d_Mo_lays2_row_now_33 : decode prog_13_method_37_code 33 = .ok (.iadd, 1) := by decide +kernel
theorem d_Mo_lays2_row_now_34 : decode prog_13_method_37_code 34 = .ok (.iaload, 1) := by decide +kernel
theorem d_Mo_lays2_row_now_35 : decode prog_13_method_37_code 35 = .ok (.iastore, 1) := by decide +kernel
theorem d_Mo_lays2_row_now_36 : decode prog_13_method_37_code 36 = .ok (.iinc 5 1, 3) := by decide +kernel
theorem d_Mo_lays2_row_now_39 : decode prog_13_method_37_code 39 = .ok (.goto (-22), 3) := by decide +kernel
theorem d_Mo_lays2_row_now_42 : decode prog_13_method_37_code 42 = .ok (.return_, 1) := by decide +kernel
def wp_Mo_lays2_row_now_b17   (Q : sx_M → sx_L → Prop) : Nat → Int32 → Int32 → Int32 → Int32 → sx_M → sx_L → Prop
  | 0, _, _, _, _, _, _ => False
  | f + 1, v1, v3, v4, v5, σ, τ => if v4 ≤ v5 then (Q σ τ) else (vp_in (v1 + v5) 643 ∧ (vp_in (v3 + v5) 643 ∧ (∀ σ4 : sx_M, σ4 = sx_u σ 67 0 0 (v3 + v5).toNatClampNeg (σ 68 0 0 (v1 + v5).toNatClampNeg) → (wp_Mo_lays2_row_now_b17 Q f v1 v3 v4 (v5 + 1) σ4 τ))))
def wp_Mo_lays2_row_now (x1 : Int32) (x3 : Int32) (σ : sx_M) (τ : sx_L) (Q : sx_M → sx_L → Prop) : Prop := vp_in (x1 + 7) 643 ∧ (∃ f17, wp_Mo_lays2_row_now_b17 Q f17 x1 x3 (243 + (2 * (σ 68 0 0 (x1 + 7).toNatClampNeg))) 0 σ τ)
abbrev rm_Mo_lays2_row_now : Room := { frames := 0, cells := 0, slots := 0, locals := 0 }
set_option maxRecDepth 100000 in
set_option maxHeartbeats 4000000 in
theorem g_Mo_lays2_row_now_b17 {l : Launch} {K : sx_K} {X : sx_T}   {Q : sx_M → sx_L → Prop} (hX : sx_C X K prog_13_method_37_code 6 "SensorTreeModel" none rm_Mo_lays2_row_now l) (hK : kx_F K) (hE : sx_E X K (sx_Qv K Q))  : ∀ (f : Nat) (v1 : Int32) (v3 : Int32) (v4 : Int32) (v5 : Int32) (σ : sx_M) (τ : sx_L) , wp_Mo_lays2_row_now_b17 Q f v1 v3 v4 v5 σ τ → sx_G X K 6 17 [(0, .ref (K.2.2.1 68 0 0)), (1, .int v1), (2, .ref (K.2.2.1 67 0 0)), (3, .int v3), (4, .int v4), (5, .int v5)] [] (sx_H K σ τ) := by
  intro f
  induction f with
  | zero => intro v1 v3 v4 v5 σ τ h; exact (show False from h).elim
  | succ f ih =>
    intro v1 v3 v4 v5 σ τ h
    rw [wp_Mo_lays2_row_now_b17] at h
    refine sx_iload (pc2 := 19) hX 5 d_Mo_lays2_row_now_17 rfl rfl ?_
    refine sx_iload (pc2 := 21) hX 4 d_Mo_lays2_row_now_19 rfl rfl ?_
    refine sx_icmp_ge (tgt := 42) (pc2 := 24) hX d_Mo_lays2_row_now_21 (by decide) rfl (fun hc1 => ?_) (fun hc1 => ?_)
    · replace h := sx_t h hc1
      exact sx_vret hX hE h d_Mo_lays2_row_now_42
    · replace h := sx_f h hc1
      refine sx_aload_n (pc2 := 25) hX 2 d_Mo_lays2_row_now_24 rfl rfl rfl ?_
      refine sx_iload_n (pc2 := 26) hX 3 d_Mo_lays2_row_now_25 rfl rfl rfl ?_
      refine sx_iload (pc2 := 28) hX 5 d_Mo_lays2_row_now_26 rfl rfl ?_
      refine sx_iadd (pc2 := 29) hX d_Mo_lays2_row_now_28 rfl ?_
      refine sx_aload_n (pc2 := 30) hX 0 d_Mo_lays2_row_now_29 rfl rfl rfl ?_
      refine sx_iload_n (pc2 := 31) hX 1 d_Mo_lays2_row_now_30 rfl rfl rfl ?_
      refine sx_iload (pc2 := 33) hX 5 d_Mo_lays2_row_now_31 rfl rfl ?_
      refine sx_iadd (pc2 := 34) hX d_Mo_lays2_row_now_33 rfl ?_
      obtain ⟨hc2, h⟩ := h
      refine sx_iald (pc2 := 35) hX (kr_68 hK) rfl hc2 d_Mo_lays2_row_now_34 rfl ?_
      obtain ⟨hc3, h⟩ := h
      refine sx_iast (pc2 := 36) hX (kr_67 hK) (fun _ => rfl) hc3 d_Mo_lays2_row_now_35 rfl ?_
      refine sx_nm (fun σ4 e4 => ?_)
      replace h := h σ4 e4
      refine sx_iinc (pc2 := 39) hX 5 _ [(0, .ref (K.2.2.1 68 0 0)), (1, .int v1), (2, .ref (K.2.2.1 67 0 0)), (3, .int v3), (4, .int v4), (5, .int (v5 + 1))] [1, 2, 3, 4, 5, 0] d_Mo_lays2_row_now_36 rfl (v5 + 1) rfl (by decide) rfl rfl rfl ?_
      refine sx_goto (tgt := 17) hX d_Mo_lays2_row_now_39 (by decide) ?_
      exact ih v1 v3 v4 (v5 + 1) _ _ h
set_option maxRecDepth 100000 in
set_option maxHeartbeats 4000000 in
theorem c_Mo_lays2_row_now {l : Launch} {K : sx_K} (hK : kx_F K) (x1 : Int32) (x3 : Int32) (σ : sx_M) (τ : sx_L) (Q : sx_M → sx_L → Prop)  (h : wp_Mo_lays2_row_now x1 x3 σ τ Q) : Met l y_Mo_lays2_row_now (sx_wd y_Mo_lays2_row_now prog_13_method_37_code 6 none) rm_Mo_lays2_row_now (sx_Pc K [.ref (K.2.2.1 68 0 0), .int x1, .ref (K.2.2.1 67 0 0), .int x3] σ τ) (sx_Qv K Q) 0 0 (sx_A K) := by
  refine sx_met (by decide) (Nat.le_of_ble_eq_true rfl) (fun X hX hE => ?_)
  replace hX : sx_C X K prog_13_method_37_code 6 "SensorTreeModel" none rm_Mo_lays2_row_now l := hX
  show sx_G X K 6 0 [(0, .ref (K.2.2.1 68 0 0)), (1, .int x1), (2, .ref (K.2.2.1 67 0 0)), (3, .int x3)] [] (sx_H K σ τ)
  unfold wp_Mo_lays2_row_now at h
  refine sx_sipush (v := 243) (pc2 := 3) hX d_Mo_lays2_row_now_0 (by decide) rfl ?_
  refine sx_iconst (v := 2) (pc2 := 4) hX d_Mo_lays2_row_now_3 (by decide) rfl ?_
  refine sx_aload_n (pc2 := 5) hX 0 d_Mo_lays2_row_now_4 rfl rfl rfl ?_
  refine sx_iload_n (pc2 := 6) hX 1 d_Mo_lays2_row_now_5 rfl rfl rfl ?_
  refine sx_bipush (v := 7) (pc2 := 8) hX d_Mo_lays2_row_now_6 (by decide) rfl ?_
  refine sx_iadd (pc2 := 9) hX d_Mo_lays2_row_now_8 rfl ?_
  obtain ⟨hc5, h⟩ := h
  refine sx_iald (pc2 := 10) hX (kr_68 hK) rfl hc5 d_Mo_lays2_row_now_9 rfl ?_
  refine sx_imul (pc2 := 11) hX d_Mo_lays2_row_now_10 rfl ?_
  refine sx_iadd (pc2 := 12) hX d_Mo_lays2_row_now_11 rfl ?_
  refine sx_istore (pc2 := 14) hX _ [(0, .ref (K.2.2.1 68 0 0)), (1, .int x1), (2, .ref (K.2.2.1 67 0 0)), (3, .int x3), (4, .int (243 + (2 * (σ 68 0 0 (x1 + 7).toNatClampNeg))))] [1, 2, 3, 4, 0] d_Mo_lays2_row_now_12 (by decide) rfl rfl rfl ?_
  refine sx_iconst (v := 0) (pc2 := 15) hX d_Mo_lays2_row_now_14 (by decide) rfl ?_
  refine sx_istore (pc2 := 17) hX _ [(0, .ref (K.2.2.1 68 0 0)), (1, .int x1), (2, .ref (K.2.2.1 67 0 0)), (3, .int x3), (4, .int (243 + (2 * (σ 68 0 0 (x1 + 7).toNatClampNeg)))), (5, .int 0)] [1, 2, 3, 4, 5, 0] d_Mo_lays2_row_now_15 (by decide) rfl rfl rfl ?_
  obtain ⟨f17, h⟩ := h
  exact g_Mo_lays2_row_now_b17 hX hK hE   f17 x1 x3 (243 + (2 * (σ 68 0 0 (x1 + 7).toNatClampNeg))) 0 _ _ h
theorem cl_Mo_220_row_now {X : sx_T} {K : sx_K} {cc : ByteArray} {nL : Nat} {ret : Option FieldType} {rm : Room} {l : Launch} {pc pc2 : Nat} {lv : List (Nat × Value)} {st : List Value} {σ : sx_M} {τ : sx_L} {x1 : Int32} {x3 : Int32} {Q : sx_M → sx_L → Prop} (hX : sx_C X K cc nL "SensorTreeModel" ret rm l) (hK : kx_F K) (h : wp_Mo_lays2_row_now x1 x3 σ τ Q)  (hR : rm_Mo_lays2_row_now.frames + 1 ≤ rm.frames ∧ 8 + (6 + 11) + rm_Mo_lays2_row_now.locals ≤ rm.locals) (hst : (st.map fun v => v.category).sum ≤ 8) (hd : decode cc pc = .ok (.invokestatic 220, 3)) (hpc : pc + 3 = pc2) (kk : ∀ (σ2 : sx_M) (τ2 : sx_L), Q σ2 τ2 → sx_G X K nL pc2 lv (st) (sx_H K σ2 τ2)) : sx_G X K nL pc lv (.int x3 :: .ref (K.2.2.1 67 0 0) :: .int x1 :: .ref (K.2.2.1 68 0 0) :: st) (sx_H K σ τ) :=
  sx_callSv (Q := Q) (As := [.ref (K.2.2.1 68 0 0), .int x1, .ref (K.2.2.1 67 0 0), .int x3]) hX (c_Mo_lays2_row_now hK x1 x3 σ τ Q  h) lk_445 hy_Mo_lays2_row_now lk_443 lk_364 lk_444 ⟨rfl, rfl⟩ hR hst rfl hd hpc kk
def y_Mo_lays2_now_row : MethodName := ⟨"SensorTreeModel", "lays", "([II[II)V"⟩
theorem hy_Mo_lays2_now_row : y_Mo_lays2_now_row.cls ≠ "java/lang/invoke/MethodHandle" ∧ y_Mo_lays2_now_row.cls ≠ "java/lang/invoke/VarHandle" ∧ (parseMethodDescriptor y_Mo_lays2_now_row.desc).map (fun d => d.parameters.length) = some 4 := by decide +kernel
theorem d_Mo_lays2_now_row_0 : decode prog_13_method_37_code 0 = .ok (.sipush 243, 3) := by decide +kernel
theorem d_Mo_lays2_now_row_3 : decode prog_13_method_37_code 3 = .ok (.iconst 2, 1) := by decide +kernel
theorem d_Mo_lays2_now_row_4 : decode prog_13_method_37_code 4 = .ok (.aload_n 0, 1) := by decide +kernel
theorem d_Mo_lays2_now_row_5 : decode prog_13_method_37_code 5 = .ok (.iload_n 1, 1) := by decide +kernel
theorem d_Mo_lays2_now_row_6 : decode prog_13_method_37_code 6 = .ok (.bipush 7, 2) := by decide +kernel
theorem d_Mo_lays2_now_row_8 : decode prog_13_method_37_code 8 = .ok (.iadd, 1) := by decide +kernel
theorem d_Mo_lays2_now_row_9 : decode prog_13_method_37_code 9 = .ok (.iaload, 1) := by decide +kernel
theorem d_Mo_lays2_now_row_10 : decode prog_13_method_37_code 10 = .ok (.imul, 1) := by decide +kernel
theorem d_Mo_lays2_now_row_11 : decode prog_13_method_37_code 11 = .ok (.iadd, 1) := by decide +kernel
theorem d_Mo_lays2_now_row_12 : decode prog_13_method_37_code 12 = .ok (.istore 4, 2) := by decide +kernel
theorem d_Mo_lays2_now_row_14 : decode prog_13_method_37_code 14 = .ok (.iconst 0, 1) := by decide +kernel
theorem d_Mo_lays2_now_row_15 : decode prog_13_method_37_code 15 = .ok (.istore 5, 2) := by decide +kernel
theorem d_Mo_lays2_now_row_17 : decode prog_13_method_37_code 17 = .ok (.iload 5, 2) := by decide +kernel
theorem d_Mo_lays2_now_row_19 : decode prog_13_method_37_code 19 = .ok (.iload 4, 2) := by decide +kernel
theorem d_Mo_lays2_now_row_21 : decode prog_13_method_37_code 21 = .ok (.if_icmp .ge 21, 3) := by decide +kernel
theorem d_Mo_lays2_now_row_24 : decode prog_13_method_37_code 24 = .ok (.aload_n 2, 1) := by decide +kernel
theorem d_Mo_lays2_now_row_25 : decode prog_13_method_37_code 25 = .ok (.iload_n 3, 1) := by decide +kernel
theorem d_Mo_lays2_now_row_26 : decode prog_13_method_37_code 26 = .ok (.iload 5, 2) := by decide +kernel
theorem d_Mo_lays2_now_row_28 : decode prog_13_method_37_code 28 = .ok (.iadd, 1) := by decide +kernel
theorem d_Mo_lays2_now_row_29 : decode prog_13_method_37_code 29 = .ok (.aload_n 0, 1) := by decide +kernel
theorem d_Mo_lays2_now_row_30 : decode prog_13_method_37_code 30 = .ok (.iload_n 1, 1) := by decide +kernel
theorem d_Mo_lays2_now_row_31 : decode prog_13_method_37_code 31 = .ok (.iload 5, 2) := by decide +kernel
theorem d_Mo_lays2_now_row_33 : decode prog_13_method_37_code 33 = .ok (.iadd, 1) := by decide +kernel
theorem d_Mo_lays2_now_row_34 : decode prog_13_method_37_code 34 = .ok (.iaload, 1) := by decide +kernel
theorem d_Mo_lays2_now_row_35 : decode prog_13_method_37_code 35 = .ok (.iastore, 1) := by decide +kernel
theorem d_Mo_lays2_now_row_36 : decode prog_13_method_37_code 36 = .ok (.iinc 5 1, 3) := by decide +kernel
theorem d_Mo_lays2_now_row_39 : decode prog_13_method_37_code 39 = .ok (.goto (-22), 3) := by decide +kernel
theorem d_Mo_lays2_now_row_42 : decode prog_13_method_37_code 42 = .ok (.return_, 1) := by decide +kernel
def wp_Mo_lays2_now_row_b17   (Q : sx_M → sx_L → Prop) : Nat → Int32 → Int32 → Int32 → Int32 → sx_M → sx_L → Prop
  | 0, _, _, _, _, _, _ => False
  | f + 1, v1, v3, v4, v5, σ, τ => if v4 ≤ v5 then (Q σ τ) else (vp_in (v1 + v5) 643 ∧ (vp_in (v3 + v5) 643 ∧ (∀ σ4 : sx_M, σ4 = sx_u σ 68 0 0 (v3 + v5).toNatClampNeg (σ 67 0 0 (v1 + v5).toNatClampNeg) → (wp_Mo_lays2_now_row_b17 Q f v1 v3 v4 (v5 + 1) σ4 τ))))
def wp_Mo_lays2_now_row (x1 : Int32) (x3 : Int32) (σ : sx_M) (τ : sx_L) (Q : sx_M → sx_L → Prop) : Prop := vp_in (x1 + 7) 643 ∧ (∃ f17, wp_Mo_lays2_now_row_b17 Q f17 x1 x3 (243 + (2 * (σ 67 0 0 (x1 + 7).toNatClampNeg))) 0 σ τ)
abbrev rm_Mo_lays2_now_row : Room := { frames := 0, cells := 0, slots := 0, locals := 0 }
set_option maxRecDepth 100000 in
set_option maxHeartbeats 4000000 in
theorem g_Mo_lays2_now_row_b17 {l : Launch} {K : sx_K} {X : sx_T}   {Q : sx_M → sx_L → Prop} (hX : sx_C X K prog_13_method_37_code 6 "SensorTreeModel" none rm_Mo_lays2_now_row l) (hK : kx_F K) (hE : sx_E X K (sx_Qv K Q))  : ∀ (f : Nat) (v1 : Int32) (v3 : Int32) (v4 : Int32) (v5 : Int32) (σ : sx_M) (τ : sx_L) , wp_Mo_lays2_now_row_b17 Q f v1 v3 v4 v5 σ τ → sx_G X K 6 17 [(0, .ref (K.2.2.1 67 0 0)), (1, .int v1), (2, .ref (K.2.2.1 68 0 0)), (3, .int v3), (4, .int v4), (5, .int v5)] [] (sx_H K σ τ) := by
  intro f
  induction f with
  | zero => intro v1 v3 v4 v5 σ τ h; exact (show False from h).elim
  | succ f ih =>
    intro v1 v3 v4 v5 σ τ h
    rw [wp_Mo_lays2_now_row_b17] at h
    refine sx_iload (pc2 := 19) hX 5 d_Mo_lays2_now_row_17 rfl rfl ?_
    refine sx_iload (pc2 := 21) hX 4 d_Mo_lays2_now_row_19 rfl rfl ?_
    refine sx_icmp_ge (tgt := 42) (pc2 := 24) hX d_Mo_lays2_now_row_21 (by decide) rfl (fun hc1 => ?_) (fun hc1 => ?_)
    · replace h := sx_t h hc1
      exact sx_vret hX hE h d_Mo_lays2_now_row_42
    · replace h := sx_f h hc1
      refine sx_aload_n (pc2 := 25) hX 2 d_Mo_lays2_now_row_24 rfl rfl rfl ?_
      refine sx_iload_n (pc2 := 26) hX 3 d_Mo_lays2_now_row_25 rfl rfl rfl ?_
      refine sx_iload (pc2 := 28) hX 5 d_Mo_lays2_now_row_26 rfl rfl ?_
      refine sx_iadd (pc2 := 29) hX d_Mo_lays2_now_row_28 rfl ?_
      refine sx_aload_n (pc2 := 30) hX 0 d_Mo_lays2_now_row_29 rfl rfl rfl ?_
      refine sx_iload_n (pc2 := 31) hX 1 d_Mo_lays2_now_row_30 rfl rfl rfl ?_
      refine sx_iload (pc2 := 33) hX 5 d_Mo_lays2_now_row_31 rfl rfl ?_
      refine sx_iadd (pc2 := 34) hX d_Mo_lays2_now_row_33 rfl ?_
      obtain ⟨hc2, h⟩ := h
      refine sx_iald (pc2 := 35) hX (kr_67 hK) rfl hc2 d_Mo_lays2_now_row_34 rfl ?_
      obtain ⟨hc3, h⟩ := h
      refine sx_iast (pc2 := 36) hX (kr_68 hK) (fun _ => rfl) hc3 d_Mo_lays2_now_row_35 rfl ?_
      refine sx_nm (fun σ4 e4 => ?_)
      replace h := h σ4 e4
      refine sx_iinc (pc2 := 39) hX 5 _ [(0, .ref (K.2.2.1 67 0 0)), (1, .int v1), (2, .ref (K.2.2.1 68 0 0)), (3, .int v3), (4, .int v4), (5, .int (v5 + 1))] [1, 2, 3, 4, 5, 0] d_Mo_lays2_now_row_36 rfl (v5 + 1) rfl (by decide) rfl rfl rfl ?_
      refine sx_goto (tgt := 17) hX d_Mo_lays2_now_row_39 (by decide) ?_
      exact ih v1 v3 v4 (v5 + 1) _ _ h
set_option maxRecDepth 100000 in
set_option maxHeartbeats 4000000 in
theorem c_Mo_lays2_now_row {l : Launch} {K : sx_K} (hK : kx_F K) (x1 : Int32) (x3 : Int32) (σ : sx_M) (τ : sx_L) (Q : sx_M → sx_L → Prop)  (h : wp_Mo_lays2_now_row x1 x3 σ τ Q) : Met l y_Mo_lays2_now_row (sx_wd y_Mo_lays2_now_row prog_13_method_37_code 6 none) rm_Mo_lays2_now_row (sx_Pc K [.ref (K.2.2.1 67 0 0), .int x1, .ref (K.2.2.1 68 0 0), .int x3] σ τ) (sx_Qv K Q) 0 0 (sx_A K) := by
  refine sx_met (by decide) (Nat.le_of_ble_eq_true rfl) (fun X hX hE => ?_)
  replace hX : sx_C X K prog_13_method_37_code 6 "SensorTreeModel" none rm_Mo_lays2_now_row l := hX
  show sx_G X K 6 0 [(0, .ref (K.2.2.1 67 0 0)), (1, .int x1), (2, .ref (K.2.2.1 68 0 0)), (3, .int x3)] [] (sx_H K σ τ)
  unfold wp_Mo_lays2_now_row at h
  refine sx_sipush (v := 243) (pc2 := 3) hX d_Mo_lays2_now_row_0 (by decide) rfl ?_
  refine sx_iconst (v := 2) (pc2 := 4) hX d_Mo_lays2_now_row_3 (by decide) rfl ?_
  refine sx_aload_n (pc2 := 5) hX 0 d_Mo_lays2_now_row_4 rfl rfl rfl ?_
  refine sx_iload_n (pc2 := 6) hX 1 d_Mo_lays2_now_row_5 rfl rfl rfl ?_
  refine sx_bipush (v := 7) (pc2 := 8) hX d_Mo_lays2_now_row_6 (by decide) rfl ?_
  refine sx_iadd (pc2 := 9) hX d_Mo_lays2_now_row_8 rfl ?_
  obtain ⟨hc5, h⟩ := h
  refine sx_iald (pc2 := 10) hX (kr_67 hK) rfl hc5 d_Mo_lays2_now_row_9 rfl ?_
  refine sx_imul (pc2 := 11) hX d_Mo_lays2_now_row_10 rfl ?_
  refine sx_iadd (pc2 := 12) hX d_Mo_lays2_now_row_11 rfl ?_
  refine sx_istore (pc2 := 14) hX _ [(0, .ref (K.2.2.1 67 0 0)), (1, .int x1), (2, .ref (K.2.2.1 68 0 0)), (3, .int x3), (4, .int (243 + (2 * (σ 67 0 0 (x1 + 7).toNatClampNeg))))] [1, 2, 3, 4, 0] d_Mo_lays2_now_row_12 (by decide) rfl rfl rfl ?_
  refine sx_iconst (v := 0) (pc2 := 15) hX d_Mo_lays2_now_row_14 (by decide) rfl ?_
  refine sx_istore (pc2 := 17) hX _ [(0, .ref (K.2.2.1 67 0 0)), (1, .int x1), (2, .ref (K.2.2.1 68 0 0)), (3, .int x3), (4, .int (243 + (2 * (σ 67 0 0 (x1 + 7).toNatClampNeg)))), (5, .int 0)] [1, 2, 3, 4, 5, 0] d_Mo_lays2_now_row_15 (by decide) rfl rfl rfl ?_
  obtain ⟨f17, h⟩ := h
  exact g_Mo_lays2_now_row_b17 hX hK hE   f17 x1 x3 (243 + (2 * (σ 67 0 0 (x1 + 7).toNatClampNeg))) 0 _ _ h
theorem cl_Mo_220_now_row {X : sx_T} {K : sx_K} {cc : ByteArray} {nL : Nat} {ret : Option FieldType} {rm : Room} {l : Launch} {pc pc2 : Nat} {lv : List (Nat × Value)} {st : List Value} {σ : sx_M} {τ : sx_L} {x1 : Int32} {x3 : Int32} {Q : sx_M → sx_L → Prop} (hX : sx_C X K cc nL "SensorTreeModel" ret rm l) (hK : kx_F K) (h : wp_Mo_lays2_now_row x1 x3 σ τ Q)  (hR : rm_Mo_lays2_now_row.frames + 1 ≤ rm.frames ∧ 8 + (6 + 11) + rm_Mo_lays2_now_row.locals ≤ rm.locals) (hst : (st.map fun v => v.category).sum ≤ 8) (hd : decode cc pc = .ok (.invokestatic 220, 3)) (hpc : pc + 3 = pc2) (kk : ∀ (σ2 : sx_M) (τ2 : sx_L), Q σ2 τ2 → sx_G X K nL pc2 lv (st) (sx_H K σ2 τ2)) : sx_G X K nL pc lv (.int x3 :: .ref (K.2.2.1 68 0 0) :: .int x1 :: .ref (K.2.2.1 67 0 0) :: st) (sx_H K σ τ) :=
  sx_callSv (Q := Q) (As := [.ref (K.2.2.1 67 0 0), .int x1, .ref (K.2.2.1 68 0 0), .int x3]) hX (c_Mo_lays2_now_row hK x1 x3 σ τ Q  h) lk_445 hy_Mo_lays2_now_row lk_443 lk_364 lk_444 ⟨rfl, rfl⟩ hR hst rfl hd hpc kk
def y_Mo_lays2_now_earlier : MethodName := ⟨"SensorTreeModel", "lays", "([II[II)V"⟩
theorem hy_Mo_lays2_now_earlier : y_Mo_lays2_now_earlier.cls ≠ "java/lang/invoke/MethodHandle" ∧ y_Mo_lays2_now_earlier.cls ≠ "java/lang/invoke/VarHandle" ∧ (parseMethodDescriptor y_Mo_lays2_now_earlier.desc).map (fun d => d.parameters.length) = some 4 := by decide +kernel
theorem d_Mo_lays2_now_earlier_0 : decode prog_13_method_37_code 0 = .ok (.sipush 243, 3) := by decide +kernel
theorem d_Mo_lays2_now_earlier_3 : decode prog_13_method_37_code 3 = .ok (.iconst 2, 1) := by decide +kernel
theorem d_Mo_lays2_now_earlier_4 : decode prog_13_method_37_code 4 = .ok (.aload_n 0, 1) := by decide +kernel
theorem d_Mo_lays2_now_earlier_5 : decode prog_13_method_37_code 5 = .ok (.iload_n 1, 1) := by decide +kernel
theorem d_Mo_lays2_now_earlier_6 : decode prog_13_method_37_code 6 = .ok (.bipush 7, 2) := by decide +kernel
theorem d_Mo_lays2_now_earlier_8 : decode prog_13_method_37_code 8 = .ok (.iadd, 1) := by decide +kernel
theorem d_Mo_lays2_now_earlier_9 : decode prog_13_method_37_code 9 = .ok (.iaload, 1) := by decide +kernel
theorem d_Mo_lays2_now_earlier_10 : decode prog_13_method_37_code 10 = .ok (.imul, 1) := by decide +kernel
theorem d_Mo_lays2_now_earlier_11 : decode prog_13_method_37_code 11 = .ok (.iadd, 1) := by decide +kernel
theorem d_Mo_lays2_now_earlier_12 : decode prog_13_method_37_code 12 = .ok (.istore 4, 2) := by decide +kernel
theorem d_Mo_lays2_now_earlier_14 : decode prog_13_method_37_code 14 = .ok (.iconst 0, 1) := by decide +kernel
theorem d_Mo_lays2_now_earlier_15 : decode prog_13_method_37_code 15 = .ok (.istore 5, 2) := by decide +kernel
theorem d_Mo_lays2_now_earlier_17 : decode prog_13_method_37_code 17 = .ok (.iload 5, 2) := by decide +kernel
theorem d_Mo_lays2_now_earlier_19 : decode prog_13_method_37_code 19 = .ok (.iload 4, 2) := by decide +kernel
theorem d_Mo_lays2_now_earlier_21 : decode prog_13_method_37_code 21 = .ok (.if_icmp .ge 21, 3) := by decide +kernel
theorem d_Mo_lays2_now_earlier_24 : decode prog_13_method_37_code 24 = .ok (.aload_n 2, 1) := by decide +kernel
theorem d_Mo_lays2_now_earlier_25 : decode prog_13_method_37_code 25 = .ok (.iload_n 3, 1) := by decide +kernel
theorem d_Mo_lays2_now_earlier_26 : decode prog_13_method_37_code 26 = .ok (.iload 5, 2) := by decide +kernel
theorem d_Mo_lays2_now_earlier_28 : decode prog_13_method_37_code 28 = .ok (.iadd, 1) := by decide +kernel
theorem d_Mo_lays2_now_earlier_29 : decode prog_13_method_37_code 29 = .ok (.aload_n 0, 1) := by decide +kernel
theorem d_Mo_lays2_now_earlier_30 : decode prog_13_method_37_code 30 = .ok (.iload_n 1, 1) := by decide +kernel
theorem d_Mo_lays2_now_earlier_31 : decode prog_13_method_37_code 31 = .ok (.iload 5, 2) := by decide +kernel
theorem d_Mo_lays2_now_earlier_33 : decode prog_13_method_37_code 33 = .ok (.iadd, 1) := by decide +kernel
theorem d_Mo_lays2_now_earlier_34 : decode prog_13_method_37_code 34 = .ok (.iaload, 1) := by decide +kernel
theorem d_Mo_lays2_now_earlier_35 : decode prog_13_method_37_code 35 = .ok (.iastore, 1) := by decide +kernel
theorem d_Mo_lays2_now_earlier_36 : decode prog_13_method_37_code 36 = .ok (.iinc 5 1, 3) := by decide +kernel
theorem d_Mo_lays2_now_earlier_39 : decode prog_13_method_37_code 39 = .ok (.goto (-22), 3) := by decide +kernel
theorem d_Mo_lays2_now_earlier_42 : decode prog_13_method_37_code 42 = .ok (.return_, 1) := by decide +kernel
def wp_Mo_lays2_now_earlier_b17   (Q : sx_M → sx_L → Prop) : Nat → Int32 → Int32 → Int32 → Int32 → sx_M → sx_L → Prop
  | 0, _, _, _, _, _, _ => False
  | f + 1, v1, v3, v4, v5, σ, τ => if v4 ≤ v5 then (Q σ τ) else (vp_in (v1 + v5) 643 ∧ (vp_in (v3 + v5) 12860 ∧ (∀ σ4 : sx_M, σ4 = sx_u σ 71 0 0 (v3 + v5).toNatClampNeg (σ 67 0 0 (v1 + v5).toNatClampNeg) → (wp_Mo_lays2_now_earlier_b17 Q f v1 v3 v4 (v5 + 1) σ4 τ))))
def wp_Mo_lays2_now_earlier (x1 : Int32) (x3 : Int32) (σ : sx_M) (τ : sx_L) (Q : sx_M → sx_L → Prop) : Prop := vp_in (x1 + 7) 643 ∧ (∃ f17, wp_Mo_lays2_now_earlier_b17 Q f17 x1 x3 (243 + (2 * (σ 67 0 0 (x1 + 7).toNatClampNeg))) 0 σ τ)
abbrev rm_Mo_lays2_now_earlier : Room := { frames := 0, cells := 0, slots := 0, locals := 0 }
set_option maxRecDepth 100000 in
set_option maxHeartbeats 4000000 in
theorem g_Mo_lays2_now_earlier_b17 {l : Launch} {K : sx_K} {X : sx_T}   {Q : sx_M → sx_L → Prop} (hX : sx_C X K prog_13_method_37_code 6 "SensorTreeModel" none rm_Mo_lays2_now_earlier l) (hK : kx_F K) (hE : sx_E X K (sx_Qv K Q))  : ∀ (f : Nat) (v1 : Int32) (v3 : Int32) (v4 : Int32) (v5 : Int32) (σ : sx_M) (τ : sx_L) , wp_Mo_lays2_now_earlier_b17 Q f v1 v3 v4 v5 σ τ → sx_G X K 6 17 [(0, .ref (K.2.2.1 67 0 0)), (1, .int v1), (2, .ref (K.2.2.1 71 0 0)), (3, .int v3), (4, .int v4), (5, .int v5)] [] (sx_H K σ τ) := by
  intro f
  induction f with
  | zero => intro v1 v3 v4 v5 σ τ h; exact (show False from h).elim
  | succ f ih =>
    intro v1 v3 v4 v5 σ τ h
    rw [wp_Mo_lays2_now_earlier_b17] at h
    refine sx_iload (pc2 := 19) hX 5 d_Mo_lays2_now_earlier_17 rfl rfl ?_
    refine sx_iload (pc2 := 21) hX 4 d_Mo_lays2_now_earlier_19 rfl rfl ?_
    refine sx_icmp_ge (tgt := 42) (pc2 := 24) hX d_Mo_lays2_now_earlier_21 (by decide) rfl (fun hc1 => ?_) (fun hc1 => ?_)
    · replace h := sx_t h hc1
      exact sx_vret hX hE h d_Mo_lays2_now_earlier_42
    · replace h := sx_f h hc1
      refine sx_aload_n (pc2 := 25) hX 2 d_Mo_lays2_now_earlier_24 rfl rfl rfl ?_
      refine sx_iload_n (pc2 := 26) hX 3 d_Mo_lays2_now_earlier_25 rfl rfl rfl ?_
      refine sx_iload (pc2 := 28) hX 5 d_Mo_lays2_now_earlier_26 rfl rfl ?_
      refine sx_iadd (pc2 := 29) hX d_Mo_lays2_now_earlier_28 rfl ?_
      refine sx_aload_n (pc2 := 30) hX 0 d_Mo_lays2_now_earlier_29 rfl rfl rfl ?_
      refine sx_iload_n (pc2 := 31) hX 1 d_Mo_lays2_now_earlier_30 rfl rfl rfl ?_
      refine sx_iload (pc2 := 33) hX 5 d_Mo_lays2_now_earlier_31 rfl rfl ?_
      refine sx_iadd (pc2 := 34) hX d_Mo_lays2_now_earlier_33 rfl ?_
      obtain ⟨hc2, h⟩ := h
      refine sx_iald (pc2 := 35) hX (kr_67 hK) rfl hc2 d_Mo_lays2_now_earlier_34 rfl ?_
      obtain ⟨hc3, h⟩ := h
      refine sx_iast (pc2 := 36) hX (kr_71 hK) (fun _ => rfl) hc3 d_Mo_lays2_now_earlier_35 rfl ?_
      refine sx_nm (fun σ4 e4 => ?_)
      replace h := h σ4 e4
      refine sx_iinc (pc2 := 39) hX 5 _ [(0, .ref (K.2.2.1 67 0 0)), (1, .int v1), (2, .ref (K.2.2.1 71 0 0)), (3, .int v3), (4, .int v4), (5, .int (v5 + 1))] [1, 2, 3, 4, 5, 0] d_Mo_lays2_now_earlier_36 rfl (v5 + 1) rfl (by decide) rfl rfl rfl ?_
      refine sx_goto (tgt := 17) hX d_Mo_lays2_now_earlier_39 (by decide) ?_
      exact ih v1 v3 v4 (v5 + 1) _ _ h
set_option maxRecDepth 100000 in
set_option maxHeartbeats 4000000 in
theorem c_Mo_lays2_now_earlier {l : Launch} {K : sx_K} (hK : kx_F K) (x1 : Int32) (x3 : Int32) (σ : sx_M) (τ : sx_L) (Q : sx_M → sx_L → Prop)  (h : wp_Mo_lays2_now_earlier x1 x3 σ τ Q) : Met l y_Mo_lays2_now_earlier (sx_wd y_Mo_lays2_now_earlier prog_13_method_37_code 6 none) rm_Mo_lays2_now_earlier (sx_Pc K [.ref (K.2.2.1 67 0 0), .int x1, .ref (K.2.2.1 71 0 0), .int x3] σ τ) (sx_Qv K Q) 0 0 (sx_A K) := by
  refine sx_met (by decide) (Nat.le_of_ble_eq_true rfl) (fun X hX hE => ?_)
  replace hX : sx_C X K prog_13_method_37_code 6 "SensorTreeModel" none rm_Mo_lays2_now_earlier l := hX
  show sx_G X K 6 0 [(0, .ref (K.2.2.1 67 0 0)), (1, .int x1), (2, .ref (K.2.2.1 71 0 0)), (3, .int x3)] [] (sx_H K σ τ)
  unfold wp_Mo_lays2_now_earlier at h
  refine sx_sipush (v := 243) (pc2 := 3) hX d_Mo_lays2_now_earlier_0 (by decide) rfl ?_
  refine sx_iconst (v := 2) (pc2 := 4) hX d_Mo_lays2_now_earlier_3 (by decide) rfl ?_
  refine sx_aload_n (pc2 := 5) hX 0 d_Mo_lays2_now_earlier_4 rfl rfl rfl ?_
  refine sx_iload_n (pc2 := 6) hX 1 d_Mo_lays2_now_earlier_5 rfl rfl rfl ?_
  refine sx_bipush (v := 7) (pc2 := 8) hX d_Mo_lays2_now_earlier_6 (by decide) rfl ?_
  refine sx_iadd (pc2 := 9) hX d_Mo_lays2_now_earlier_8 rfl ?_
  obtain ⟨hc5, h⟩ := h
  refine sx_iald (pc2 := 10) hX (kr_67 hK) rfl hc5 d_Mo_lays2_now_earlier_9 rfl ?_
  refine sx_imul (pc2 := 11) hX d_Mo_lays2_now_earlier_10 rfl ?_
  refine sx_iadd (pc2 := 12) hX d_Mo_lays2_now_earlier_11 rfl ?_
  refine sx_istore (pc2 := 14) hX _ [(0, .ref (K.2.2.1 67 0 0)), (1, .int x1), (2, .ref (K.2.2.1 71 0 0)), (3, .int x3), (4, .int (243 + (2 * (σ 67 0 0 (x1 + 7).toNatClampNeg))))] [1, 2, 3, 4, 0] d_Mo_lays2_now_earlier_12 (by decide) rfl rfl rfl ?_
  refine sx_iconst (v := 0) (pc2 := 15) hX d_Mo_lays2_now_earlier_14 (by decide) rfl ?_
  refine sx_istore (pc2 := 17) hX _ [(0, .ref (K.2.2.1 67 0 0)), (1, .int x1), (2, .ref (K.2.2.1 71 0 0)), (3, .int x3), (4, .int (243 + (2 * (σ 67 0 0 (x1 + 7).toNatClampNeg)))), (5, .int 0)] [1, 2, 3, 4, 5, 0] d_Mo_lays2_now_earlier_15 (by decide) rfl rfl rfl ?_
  obtain ⟨f17, h⟩ := h
  exact g_Mo_lays2_now_earlier_b17 hX hK hE   f17 x1 x3 (243 + (2 * (σ 67 0 0 (x1 + 7).toNatClampNeg))) 0 _ _ h
theorem cl_Mo_220_now_earlier {X : sx_T} {K : sx_K} {cc : ByteArray} {nL : Nat} {ret : Option FieldType} {rm : Room} {l : Launch} {pc pc2 : Nat} {lv : List (Nat × Value)} {st : List Value} {σ : sx_M} {τ : sx_L} {x1 : Int32} {x3 : Int32} {Q : sx_M → sx_L → Prop} (hX : sx_C X K cc nL "SensorTreeModel" ret rm l) (hK : kx_F K) (h : wp_Mo_lays2_now_earlier x1 x3 σ τ Q)  (hR : rm_Mo_lays2_now_earlier.frames + 1 ≤ rm.frames ∧ 8 + (6 + 11) + rm_Mo_lays2_now_earlier.locals ≤ rm.locals) (hst : (st.map fun v => v.category).sum ≤ 8) (hd : decode cc pc = .ok (.invokestatic 220, 3)) (hpc : pc + 3 = pc2) (kk : ∀ (σ2 : sx_M) (τ2 : sx_L), Q σ2 τ2 → sx_G X K nL pc2 lv (st) (sx_H K σ2 τ2)) : sx_G X K nL pc lv (.int x3 :: .ref (K.2.2.1 71 0 0) :: .int x1 :: .ref (K.2.2.1 67 0 0) :: st) (sx_H K σ τ) :=
  sx_callSv (Q := Q) (As := [.ref (K.2.2.1 67 0 0), .int x1, .ref (K.2.2.1 71 0 0), .int x3]) hX (c_Mo_lays2_now_earlier hK x1 x3 σ τ Q  h) lk_445 hy_Mo_lays2_now_earlier lk_443 lk_364 lk_444 ⟨rfl, rfl⟩ hR hst rfl hd hpc kk
def y_Mo_lays2_earlier_now : MethodName := ⟨"SensorTreeModel", "lays", "([II[II)V"⟩
theorem hy_Mo_lays2_earlier_now : y_Mo_lays2_earlier_now.cls ≠ "java/lang/invoke/MethodHandle" ∧ y_Mo_lays2_earlier_now.cls ≠ "java/lang/invoke/VarHandle" ∧ (parseMethodDescriptor y_Mo_lays2_earlier_now.desc).map (fun d => d.parameters.length) = some 4 := by decide +kernel
theorem d_Mo_lays2_earlier_now_0 : decode prog_13_method_37_code 0 = .ok (.sipush 243, 3) := by decide +kernel
theorem d_Mo_lays2_earlier_now_3 : decode prog_13_method_37_code 3 = .ok (.iconst 2, 1) := by decide +kernel
theorem d_Mo_lays2_earlier_now_4 : decode prog_13_method_37_code 4 = .ok (.aload_n 0, 1) := by decide +kernel
theorem d_Mo_lays2_earlier_now_5 : decode prog_13_method_37_code 5 = .ok (.iload_n 1, 1) := by decide +kernel
theorem d_Mo_lays2_earlier_now_6 : decode prog_13_method_37_code 6 = .ok (.bipush 7, 2) := by decide +kernel
theorem d_Mo_lays2_earlier_now_8 : decode prog_13_method_37_code 8 = .ok (.iadd, 1) := by decide +kernel
theorem d_Mo_lays2_earlier_now_9 : decode prog_13_method_37_code 9 = .ok (.iaload, 1) := by decide +kernel
theorem d_Mo_lays2_earlier_now_10 : decode prog_13_method_37_code 10 = .ok (.imul, 1) := by decide +kernel
theorem d_Mo_lays2_earlier_now_11 : decode prog_13_method_37_code 11 = .ok (.iadd, 1) := by decide +kernel
theorem d_Mo_lays2_earlier_now_12 : decode prog_13_method_37_code 12 = .ok (.istore 4, 2) := by decide +kernel
theorem d_Mo_lays2_earlier_now_14 : decode prog_13_method_37_code 14 = .ok (.iconst 0, 1) := by decide +kernel
theorem d_Mo_lays2_earlier_now_15 : decode prog_13_method_37_code 15 = .ok (.istore 5, 2) := by decide +kernel
theorem d_Mo_lays2_earlier_now_17 : decode prog_13_method_37_code 17 = .ok (.iload 5, 2) := by decide +kernel
theorem d_Mo_lays2_earlier_now_19 : decode prog_13_method_37_code 19 = .ok (.iload 4, 2) := by decide +kernel
theorem d_Mo_lays2_earlier_now_21 : decode prog_13_method_37_code 21 = .ok (.if_icmp .ge 21, 3) := by decide +kernel
theorem d_Mo_lays2_earlier_now_24 : decode prog_13_method_37_code 24 = .ok (.aload_n 2, 1) := by decide +kernel
theorem d_Mo_lays2_earlier_now_25 : decode prog_13_method_37_code 25 = .ok (.iload_n 3, 1) := by decide +kernel
theorem d_Mo_lays2_earlier_now_26 : decode prog_13_method_37_code 26 = .ok (.iload 5, 2) := by decide +kernel
theorem d_Mo_lays2_earlier_now_28 : decode prog_13_method_37_code 28 = .ok (.iadd, 1) := by decide +kernel
theorem d_Mo_lays2_earlier_now_29 : decode prog_13_method_37_code 29 = .ok (.aload_n 0, 1) := by decide +kernel
theorem d_Mo_lays2_earlier_now_30 : decode prog_13_method_37_code 30 = .ok (.iload_n 1, 1) := by decide +kernel
theorem d_Mo_lays2_earlier_now_31 : decode prog_13_method_37_code 31 = .ok (.iload 5, 2) := by decide +kernel
theorem d_Mo_lays2_earlier_now_33 : decode prog_13_method_37_code 33 = .ok (.iadd, 1) := by decide +kernel
theorem d_Mo_lays2_earlier_now_34 : decode prog_13_method_37_code 34 = .ok (.iaload, 1) := by decide +kernel
theorem d_Mo_lays2_earlier_now_35 : decode prog_13_method_37_code 35 = .ok (.iastore, 1) := by decide +kernel
theorem d_Mo_lays2_earlier_now_36 : decode prog_13_method_37_code 36 = .ok (.iinc 5 1, 3) := by decide +kernel
theorem d_Mo_lays2_earlier_now_39 : decode prog_13_method_37_code 39 = .ok (.goto (-22), 3) := by decide +kernel
theorem d_Mo_lays2_earlier_now_42 : decode prog_13_method_37_code 42 = .ok (.return_, 1) := by decide +kernel
def wp_Mo_lays2_earlier_now_b17   (Q : sx_M → sx_L → Prop) : Nat → Int32 → Int32 → Int32 → Int32 → sx_M → sx_L → Prop
  | 0, _, _, _, _, _, _ => False
  | f + 1, v1, v3, v4, v5, σ, τ => if v4 ≤ v5 then (Q σ τ) else (vp_in (v1 + v5) 12860 ∧ (vp_in (v3 + v5) 643 ∧ (∀ σ4 : sx_M, σ4 = sx_u σ 67 0 0 (v3 + v5).toNatClampNeg (σ 71 0 0 (v1 + v5).toNatClampNeg) → (wp_Mo_lays2_earlier_now_b17 Q f v1 v3 v4 (v5 + 1) σ4 τ))))
def wp_Mo_lays2_earlier_now (x1 : Int32) (x3 : Int32) (σ : sx_M) (τ : sx_L) (Q : sx_M → sx_L → Prop) : Prop := vp_in (x1 + 7) 12860 ∧ (∃ f17, wp_Mo_lays2_earlier_now_b17 Q f17 x1 x3 (243 + (2 * (σ 71 0 0 (x1 + 7).toNatClampNeg))) 0 σ τ)
abbrev rm_Mo_lays2_earlier_now : Room := { frames := 0, cells := 0, slots := 0, locals := 0 }
set_option maxRecDepth 100000 in
set_option maxHeartbeats 4000000 in
theorem g_Mo_lays2_earlier_now_b17 {l : Launch} {K : sx_K} {X : sx_T}   {Q : sx_M → sx_L → Prop} (hX : sx_C X K prog_13_method_37_code 6 "SensorTreeModel" none rm_Mo_lays2_earlier_now l) (hK : kx_F K) (hE : sx_E X K (sx_Qv K Q))  : ∀ (f : Nat) (v1 : Int32) (v3 : Int32) (v4 : Int32) (v5 : Int32) (σ : sx_M) (τ : sx_L) , wp_Mo_lays2_earlier_now_b17 Q f v1 v3 v4 v5 σ τ → sx_G X K 6 17 [(0, .ref (K.2.2.1 71 0 0)), (1, .int v1), (2, .ref (K.2.2.1 67 0 0)), (3, .int v3), (4, .int v4), (5, .int v5)] [] (sx_H K σ τ) := by
  intro f
  induction f with
  | zero => intro v1 v3 v4 v5 σ τ h; exact (show False from h).elim
  | succ f ih =>
    intro v1 v3 v4 v5 σ τ h
    rw [wp_Mo_lays2_earlier_now_b17] at h
    refine sx_iload (pc2 := 19) hX 5 d_Mo_lays2_earlier_now_17 rfl rfl ?_
    refine sx_iload (pc2 := 21) hX 4 d_Mo_lays2_earlier_now_19 rfl rfl ?_
    refine sx_icmp_ge (tgt := 42) (pc2 := 24) hX d_Mo_lays2_earlier_now_21 (by decide) rfl (fun hc1 => ?_) (fun hc1 => ?_)
    · replace h := sx_t h hc1
      exact sx_vret hX hE h d_Mo_lays2_earlier_now_42
    · replace h := sx_f h hc1
      refine sx_aload_n (pc2 := 25) hX 2 d_Mo_lays2_earlier_now_24 rfl rfl rfl ?_
      refine sx_iload_n (pc2 := 26) hX 3 d_Mo_lays2_earlier_now_25 rfl rfl rfl ?_
      refine sx_iload (pc2 := 28) hX 5 d_Mo_lays2_earlier_now_26 rfl rfl ?_
      refine sx_iadd (pc2 := 29) hX d_Mo_lays2_earlier_now_28 rfl ?_
      refine sx_aload_n (pc2 := 30) hX 0 d_Mo_lays2_earlier_now_29 rfl rfl rfl ?_
      refine sx_iload_n (pc2 := 31) hX 1 d_Mo_lays2_earlier_now_30 rfl rfl rfl ?_
      refine sx_iload (pc2 := 33) hX 5 d_Mo_lays2_earlier_now_31 rfl rfl ?_
      refine sx_iadd (pc2 := 34) hX d_Mo_lays2_earlier_now_33 rfl ?_
      obtain ⟨hc2, h⟩ := h
      refine sx_iald (pc2 := 35) hX (kr_71 hK) rfl hc2 d_Mo_lays2_earlier_now_34 rfl ?_
      obtain ⟨hc3, h⟩ := h
      refine sx_iast (pc2 := 36) hX (kr_67 hK) (fun _ => rfl) hc3 d_Mo_lays2_earlier_now_35 rfl ?_
      refine sx_nm (fun σ4 e4 => ?_)
      replace h := h σ4 e4
      refine sx_iinc (pc2 := 39) hX 5 _ [(0, .ref (K.2.2.1 71 0 0)), (1, .int v1), (2, .ref (K.2.2.1 67 0 0)), (3, .int v3), (4, .int v4), (5, .int (v5 + 1))] [1, 2, 3, 4, 5, 0] d_Mo_lays2_earlier_now_36 rfl (v5 + 1) rfl (by decide) rfl rfl rfl ?_
      refine sx_goto (tgt := 17) hX d_Mo_lays2_earlier_now_39 (by decide) ?_
      exact ih v1 v3 v4 (v5 + 1) _ _ h
set_option maxRecDepth 100000 in
set_option maxHeartbeats 4000000 in
theorem c_Mo_lays2_earlier_now {l : Launch} {K : sx_K} (hK : kx_F K) (x1 : Int32) (x3 : Int32) (σ : sx_M) (τ : sx_L) (Q : sx_M → sx_L → Prop)  (h : wp_Mo_lays2_earlier_now x1 x3 σ τ Q) : Met l y_Mo_lays2_earlier_now (sx_wd y_Mo_lays2_earlier_now prog_13_method_37_code 6 none) rm_Mo_lays2_earlier_now (sx_Pc K [.ref (K.2.2.1 71 0 0), .int x1, .ref (K.2.2.1 67 0 0), .int x3] σ τ) (sx_Qv K Q) 0 0 (sx_A K) := by
  refine sx_met (by decide) (Nat.le_of_ble_eq_true rfl) (fun X hX hE => ?_)
  replace hX : sx_C X K prog_13_method_37_code 6 "SensorTreeModel" none rm_Mo_lays2_earlier_now l := hX
  show sx_G X K 6 0 [(0, .ref (K.2.2.1 71 0 0)), (1, .int x1), (2, .ref (K.2.2.1 67 0 0)), (3, .int x3)] [] (sx_H K σ τ)
  unfold wp_Mo_lays2_earlier_now at h
  refine sx_sipush (v := 243) (pc2 := 3) hX d_Mo_lays2_earlier_now_0 (by decide) rfl ?_
  refine sx_iconst (v := 2) (pc2 := 4) hX d_Mo_lays2_earlier_now_3 (by decide) rfl ?_
  refine sx_aload_n (pc2 := 5) hX 0 d_Mo_lays2_earlier_now_4 rfl rfl rfl ?_
  refine sx_iload_n (pc2 := 6) hX 1 d_Mo_lays2_earlier_now_5 rfl rfl rfl ?_
  refine sx_bipush (v := 7) (pc2 := 8) hX d_Mo_lays2_earlier_now_6 (by decide) rfl ?_
  refine sx_iadd (pc2 := 9) hX d_Mo_lays2_earlier_now_8 rfl ?_
  obtain ⟨hc5, h⟩ := h
  refine sx_iald (pc2 := 10) hX (kr_71 hK) rfl hc5 d_Mo_lays2_earlier_now_9 rfl ?_
  refine sx_imul (pc2 := 11) hX d_Mo_lays2_earlier_now_10 rfl ?_
  refine sx_iadd (pc2 := 12) hX d_Mo_lays2_earlier_now_11 rfl ?_
  refine sx_istore (pc2 := 14) hX _ [(0, .ref (K.2.2.1 71 0 0)), (1, .int x1), (2, .ref (K.2.2.1 67 0 0)), (3, .int x3), (4, .int (243 + (2 * (σ 71 0 0 (x1 + 7).toNatClampNeg))))] [1, 2, 3, 4, 0] d_Mo_lays2_earlier_now_12 (by decide) rfl rfl rfl ?_
  refine sx_iconst (v := 0) (pc2 := 15) hX d_Mo_lays2_earlier_now_14 (by decide) rfl ?_
  refine sx_istore (pc2 := 17) hX _ [(0, .ref (K.2.2.1 71 0 0)), (1, .int x1), (2, .ref (K.2.2.1 67 0 0)), (3, .int x3), (4, .int (243 + (2 * (σ 71 0 0 (x1 + 7).toNatClampNeg)))), (5, .int 0)] [1, 2, 3, 4, 5, 0] d_Mo_lays2_earlier_now_15 (by decide) rfl rfl rfl ?_
  obtain ⟨f17, h⟩ := h
  exact g_Mo_lays2_earlier_now_b17 hX hK hE   f17 x1 x3 (243 + (2 * (σ 71 0 0 (x1 + 7).toNatClampNeg))) 0 _ _ h
theorem cl_Mo_220_earlier_now {X : sx_T} {K : sx_K} {cc : ByteArray} {nL : Nat} {ret : Option FieldType} {rm : Room} {l : Launch} {pc pc2 : Nat} {lv : List (Nat × Value)} {st : List Value} {σ : sx_M} {τ : sx_L} {x1 : Int32} {x3 : Int32} {Q : sx_M → sx_L → Prop} (hX : sx_C X K cc nL "SensorTreeModel" ret rm l) (hK : kx_F K) (h : wp_Mo_lays2_earlier_now x1 x3 σ τ Q)  (hR : rm_Mo_lays2_earlier_now.frames + 1 ≤ rm.frames ∧ 8 + (6 + 11) + rm_Mo_lays2_earlier_now.locals ≤ rm.locals) (hst : (st.map fun v => v.category).sum ≤ 8) (hd : decode cc pc = .ok (.invokestatic 220, 3)) (hpc : pc + 3 = pc2) (kk : ∀ (σ2 : sx_M) (τ2 : sx_L), Q σ2 τ2 → sx_G X K nL pc2 lv (st) (sx_H K σ2 τ2)) : sx_G X K nL pc lv (.int x3 :: .ref (K.2.2.1 67 0 0) :: .int x1 :: .ref (K.2.2.1 71 0 0) :: st) (sx_H K σ τ) :=
  sx_callSv (Q := Q) (As := [.ref (K.2.2.1 71 0 0), .int x1, .ref (K.2.2.1 67 0 0), .int x3]) hX (c_Mo_lays2_earlier_now hK x1 x3 σ τ Q  h) lk_445 hy_Mo_lays2_earlier_now lk_443 lk_364 lk_444 ⟨rfl, rfl⟩ hR hst rfl hd hpc kk
def y_Mo_lays2_now_held : MethodName := ⟨"SensorTreeModel", "lays", "([II[II)V"⟩
theorem hy_Mo_lays2_now_held : y_Mo_lays2_now_held.cls ≠ "java/lang/invoke/MethodHandle" ∧ y_Mo_lays2_now_held.cls ≠ "java/lang/invoke/VarHandle" ∧ (parseMethodDescriptor y_Mo_lays2_now_held.desc).map (fun d => d.parameters.length) = some 4 := by decide +kernel
theorem d_Mo_lays2_now_held_0 : decode prog_13_method_37_code 0 = .ok (.sipush 243, 3) := by decide +kernel
theorem d_Mo_lays2_now_held_3 : decode prog_13_method_37_code 3 = .ok (.iconst 2, 1) := by decide +kernel
theorem d_Mo_lays2_now_held_4 : decode prog_13_method_37_code 4 = .ok (.aload_n 0, 1) := by decide +kernel
theorem d_Mo_lays2_now_held_5 : decode prog_13_method_37_code 5 = .ok (.iload_n 1, 1) := by decide +kernel
theorem d_Mo_lays2_now_held_6 : decode prog_13_method_37_code 6 = .ok (.bipush 7, 2) := by decide +kernel
theorem d_Mo_lays2_now_held_8 : decode prog_13_method_37_code 8 = .ok (.iadd, 1) := by decide +kernel
theorem d_Mo_lays2_now_held_9 : decode prog_13_method_37_code 9 = .ok (.iaload, 1) := by decide +kernel
theorem d_Mo_lays2_now_held_10 : decode prog_13_method_37_code 10 = .ok (.imul, 1) := by decide +kernel
theorem d_Mo_lays2_now_held_11 : decode prog_13_method_37_code 11 = .ok (.iadd, 1) := by decide +kernel
theorem d_Mo_lays2_now_held_12 : decode prog_13_method_37_code 12 = .ok (.istore 4, 2) := by decide +kernel
theorem d_Mo_lays2_now_held_14 : decode prog_13_method_37_code 14 = .ok (.iconst 0, 1) := by decide +kernel
theorem d_Mo_lays2_now_held_15 : decode prog_13_method_37_code 15 = .ok (.istore 5, 2) := by decide +kernel
theorem d_Mo_lays2_now_held_17 : decode prog_13_method_37_code 17 = .ok (.iload 5, 2) := by decide +kernel
theorem d_Mo_lays2_now_held_19 : decode prog_13_method_37_code 19 = .ok (.iload 4, 2) := by decide +kernel
theorem d_Mo_lays2_now_held_21 : decode prog_13_method_37_code 21 = .ok (.if_icmp .ge 21, 3) := by decide +kernel
theorem d_Mo_lays2_now_held_24 : decode prog_13_method_37_code 24 = .ok (.aload_n 2, 1) := by decide +kernel
theorem d_Mo_lays2_now_held_25 : decode prog_13_method_37_code 25 = .ok (.iload_n 3, 1) := by decide +kernel
theorem d_Mo_lays2_now_held_26 : decode prog_13_method_37_code 26 = .ok (.iload 5, 2) := by decide +kernel
theorem d_Mo_lays2_now_held_28 : decode prog_13_method_37_code 28 = .ok (.iadd, 1) := by decide +kernel
theorem d_Mo_lays2_now_held_29 : decode prog_13_method_37_code 29 = .ok (.aload_n 0, 1) := by decide +kernel
theorem d_Mo_lays2_now_held_30 : decode prog_13_method_37_code 30 = .ok (.iload_n 1, 1) := by decide +kernel
theorem d_Mo_lays2_now_held_31 : decode prog_13_method_37_code 31 = .ok (.iload 5, 2) := by decide +kernel
theorem d_Mo_lays2_now_held_33 : decode prog_13_method_37_code 33 = .ok (.iadd, 1) := by decide +kernel
theorem d_Mo_lays2_now_held_34 : decode prog_13_method_37_code 34 = .ok (.iaload, 1) := by decide +kernel
theorem d_Mo_lays2_now_held_35 : decode prog_13_method_37_code 35 = .ok (.iastore, 1) := by decide +kernel
theorem d_Mo_lays2_now_held_36 : decode prog_13_method_37_code 36 = .ok (.iinc 5 1, 3) := by decide +kernel
theorem d_Mo_lays2_now_held_39 : decode prog_13_method_37_code 39 = .ok (.goto (-22), 3) := by decide +kernel
theorem d_Mo_lays2_now_held_42 : decode prog_13_method_37_code 42 = .ok (.return_, 1) := by decide +kernel
def wp_Mo_lays2_now_held_b17   (Q : sx_M → sx_L → Prop) : Nat → Int32 → Int32 → Int32 → Int32 → sx_M → sx_L → Prop
  | 0, _, _, _, _, _, _ => False
  | f + 1, v1, v3, v4, v5, σ, τ => if v4 ≤ v5 then (Q σ τ) else (vp_in (v1 + v5) 643 ∧ (vp_in (v3 + v5) 1929 ∧ (∀ σ4 : sx_M, σ4 = sx_u σ 72 0 0 (v3 + v5).toNatClampNeg (σ 67 0 0 (v1 + v5).toNatClampNeg) → (wp_Mo_lays2_now_held_b17 Q f v1 v3 v4 (v5 + 1) σ4 τ))))
def wp_Mo_lays2_now_held (x1 : Int32) (x3 : Int32) (σ : sx_M) (τ : sx_L) (Q : sx_M → sx_L → Prop) : Prop := vp_in (x1 + 7) 643 ∧ (∃ f17, wp_Mo_lays2_now_held_b17 Q f17 x1 x3 (243 + (2 * (σ 67 0 0 (x1 + 7).toNatClampNeg))) 0 σ τ)
abbrev rm_Mo_lays2_now_held : Room := { frames := 0, cells := 0, slots := 0, locals := 0 }
set_option maxRecDepth 100000 in
set_option maxHeartbeats 4000000 in
theorem g_Mo_lays2_now_held_b17 {l : Launch} {K : sx_K} {X : sx_T}   {Q : sx_M → sx_L → Prop} (hX : sx_C X K prog_13_method_37_code 6 "SensorTreeModel" none rm_Mo_lays2_now_held l) (hK : kx_F K) (hE : sx_E X K (sx_Qv K Q))  : ∀ (f : Nat) (v1 : Int32) (v3 : Int32) (v4 : Int32) (v5 : Int32) (σ : sx_M) (τ : sx_L) , wp_Mo_lays2_now_held_b17 Q f v1 v3 v4 v5 σ τ → sx_G X K 6 17 [(0, .ref (K.2.2.1 67 0 0)), (1, .int v1), (2, .ref (K.2.2.1 72 0 0)), (3, .int v3), (4, .int v4), (5, .int v5)] [] (sx_H K σ τ) := by
  intro f
  induction f with
  | zero => intro v1 v3 v4 v5 σ τ h; exact (show False from h).elim
  | succ f ih =>
    intro v1 v3 v4 v5 σ τ h
    rw [wp_Mo_lays2_now_held_b17] at h
    refine sx_iload (pc2 := 19) hX 5 d_Mo_lays2_now_held_17 rfl rfl ?_
    refine sx_iload (pc2 := 21) hX 4 d_Mo_lays2_now_held_19 rfl rfl ?_
    refine sx_icmp_ge (tgt := 42) (pc2 := 24) hX d_Mo_lays2_now_held_21 (by decide) rfl (fun hc1 => ?_) (fun hc1 => ?_)
    · replace h := sx_t h hc1
      exact sx_vret hX hE h d_Mo_lays2_now_held_42
    · replace h := sx_f h hc1
      refine sx_aload_n (pc2 := 25) hX 2 d_Mo_lays2_now_held_24 rfl rfl rfl ?_
      refine sx_iload_n (pc2 := 26) hX 3 d_Mo_lays2_now_held_25 rfl rfl rfl ?_
      refine sx_iload (pc2 := 28) hX 5 d_Mo_lays2_now_held_26 rfl rfl ?_
      refine sx_iadd (pc2 := 29) hX d_Mo_lays2_now_held_28 rfl ?_
      refine sx_aload_n (pc2 := 30) hX 0 d_Mo_lays2_now_held_29 rfl rfl rfl ?_
      refine sx_iload_n (pc2 := 31) hX 1 d_Mo_lays2_now_held_30 rfl rfl rfl ?_
      refine sx_iload (pc2 := 33) hX 5 d_Mo_lays2_now_held_31 rfl rfl ?_
      refine sx_iadd (pc2 := 34) hX d_Mo_lays2_now_held_33 rfl ?_
      obtain ⟨hc2, h⟩ := h
      refine sx_iald (pc2 := 35) hX (kr_67 hK) rfl hc2 d_Mo_lays2_now_held_34 rfl ?_
      obtain ⟨hc3, h⟩ := h
      refine sx_iast (pc2 := 36) hX (kr_72 hK) (fun _ => rfl) hc3 d_Mo_lays2_now_held_35 rfl ?_
      refine sx_nm (fun σ4 e4 => ?_)
      replace h := h σ4 e4
      refine sx_iinc (pc2 := 39) hX 5 _ [(0, .ref (K.2.2.1 67 0 0)), (1, .int v1), (2, .ref (K.2.2.1 72 0 0)), (3, .int v3), (4, .int v4), (5, .int (v5 + 1))] [1, 2, 3, 4, 5, 0] d_Mo_lays2_now_held_36 rfl (v5 + 1) rfl (by decide) rfl rfl rfl ?_
      refine sx_goto (tgt := 17) hX d_Mo_lays2_now_held_39 (by decide) ?_
      exact ih v1 v3 v4 (v5 + 1) _ _ h
set_option maxRecDepth 100000 in
set_option maxHeartbeats 4000000 in
theorem c_Mo_lays2_now_held {l : Launch} {K : sx_K} (hK : kx_F K) (x1 : Int32) (x3 : Int32) (σ : sx_M) (τ : sx_L) (Q : sx_M → sx_L → Prop)  (h : wp_Mo_lays2_now_held x1 x3 σ τ Q) : Met l y_Mo_lays2_now_held (sx_wd y_Mo_lays2_now_held prog_13_method_37_code 6 none) rm_Mo_lays2_now_held (sx_Pc K [.ref (K.2.2.1 67 0 0), .int x1, .ref (K.2.2.1 72 0 0), .int x3] σ τ) (sx_Qv K Q) 0 0 (sx_A K) := by
  refine sx_met (by decide) (Nat.le_of_ble_eq_true rfl) (fun X hX hE => ?_)
  replace hX : sx_C X K prog_13_method_37_code 6 "SensorTreeModel" none rm_Mo_lays2_now_held l := hX
  show sx_G X K 6 0 [(0, .ref (K.2.2.1 67 0 0)), (1, .int x1), (2, .ref (K.2.2.1 72 0 0)), (3, .int x3)] [] (sx_H K σ τ)
  unfold wp_Mo_lays2_now_held at h
  refine sx_sipush (v := 243) (pc2 := 3) hX d_Mo_lays2_now_held_0 (by decide) rfl ?_
  refine sx_iconst (v := 2) (pc2 := 4) hX d_Mo_lays2_now_held_3 (by decide) rfl ?_
  refine sx_aload_n (pc2 := 5) hX 0 d_Mo_lays2_now_held_4 rfl rfl rfl ?_
  refine sx_iload_n (pc2 := 6) hX 1 d_Mo_lays2_now_held_5 rfl rfl rfl ?_
  refine sx_bipush (v := 7) (pc2 := 8) hX d_Mo_lays2_now_held_6 (by decide) rfl ?_
  refine sx_iadd (pc2 := 9) hX d_Mo_lays2_now_held_8 rfl ?_
  obtain ⟨hc5, h⟩ := h
  refine sx_iald (pc2 := 10) hX (kr_67 hK) rfl hc5 d_Mo_lays2_now_held_9 rfl ?_
  refine sx_imul (pc2 := 11) hX d_Mo_lays2_now_held_10 rfl ?_
  refine sx_iadd (pc2 := 12) hX d_Mo_lays2_now_held_11 rfl ?_
  refine sx_istore (pc2 := 14) hX _ [(0, .ref (K.2.2.1 67 0 0)), (1, .int x1), (2, .ref (K.2.2.1 72 0 0)), (3, .int x3), (4, .int (243 + (2 * (σ 67 0 0 (x1 + 7).toNatClampNeg))))] [1, 2, 3, 4, 0] d_Mo_lays2_now_held_12 (by decide) rfl rfl rfl ?_
  refine sx_iconst (v := 0) (pc2 := 15) hX d_Mo_lays2_now_held_14 (by decide) rfl ?_
  refine sx_istore (pc2 := 17) hX _ [(0, .ref (K.2.2.1 67 0 0)), (1, .int x1), (2, .ref (K.2.2.1 72 0 0)), (3, .int x3), (4, .int (243 + (2 * (σ 67 0 0 (x1 + 7).toNatClampNeg)))), (5, .int 0)] [1, 2, 3, 4, 5, 0] d_Mo_lays2_now_held_15 (by decide) rfl rfl rfl ?_
  obtain ⟨f17, h⟩ := h
  exact g_Mo_lays2_now_held_b17 hX hK hE   f17 x1 x3 (243 + (2 * (σ 67 0 0 (x1 + 7).toNatClampNeg))) 0 _ _ h
theorem cl_Mo_220_now_held {X : sx_T} {K : sx_K} {cc : ByteArray} {nL : Nat} {ret : Option FieldType} {rm : Room} {l : Launch} {pc pc2 : Nat} {lv : List (Nat × Value)} {st : List Value} {σ : sx_M} {τ : sx_L} {x1 : Int32} {x3 : Int32} {Q : sx_M → sx_L → Prop} (hX : sx_C X K cc nL "SensorTreeModel" ret rm l) (hK : kx_F K) (h : wp_Mo_lays2_now_held x1 x3 σ τ Q)  (hR : rm_Mo_lays2_now_held.frames + 1 ≤ rm.frames ∧ 8 + (6 + 11) + rm_Mo_lays2_now_held.locals ≤ rm.locals) (hst : (st.map fun v => v.category).sum ≤ 8) (hd : decode cc pc = .ok (.invokestatic 220, 3)) (hpc : pc + 3 = pc2) (kk : ∀ (σ2 : sx_M) (τ2 : sx_L), Q σ2 τ2 → sx_G X K nL pc2 lv (st) (sx_H K σ2 τ2)) : sx_G X K nL pc lv (.int x3 :: .ref (K.2.2.1 72 0 0) :: .int x1 :: .ref (K.2.2.1 67 0 0) :: st) (sx_H K σ τ) :=
  sx_callSv (Q := Q) (As := [.ref (K.2.2.1 67 0 0), .int x1, .ref (K.2.2.1 72 0 0), .int x3]) hX (c_Mo_lays2_now_held hK x1 x3 σ τ Q  h) lk_445 hy_Mo_lays2_now_held lk_443 lk_364 lk_444 ⟨rfl, rfl⟩ hR hst rfl hd hpc kk
def y_Mo_lays2_held_now : MethodName := ⟨"SensorTreeModel", "lays", "([II[II)V"⟩
theorem hy_Mo_lays2_held_now : y_Mo_lays2_held_now.cls ≠ "java/lang/invoke/MethodHandle" ∧ y_Mo_lays2_held_now.cls ≠ "java/lang/invoke/VarHandle" ∧ (parseMethodDescriptor y_Mo_lays2_held_now.desc).map (fun d => d.parameters.length) = some 4 := by decide +kernel
theorem d_Mo_lays2_held_now_0 : decode prog_13_method_37_code 0 = .ok (.sipush 243, 3) := by decide +kernel
theorem d_Mo_lays2_held_now_3 : decode prog_13_method_37_code 3 = .ok (.iconst 2, 1) := by decide +kernel
theorem d_Mo_lays2_held_now_4 : decode prog_13_method_37_code 4 = .ok (.aload_n 0, 1) := by decide +kernel
theorem d_Mo_lays2_held_now_5 : decode prog_13_method_37_code 5 = .ok (.iload_n 1, 1) := by decide +kernel
theorem d_Mo_lays2_held_now_6 : decode prog_13_method_37_code 6 = .ok (.bipush 7, 2) := by decide +kernel
theorem d_Mo_lays2_held_now_8 : decode prog_13_method_37_code 8 = .ok (.iadd, 1) := by decide +kernel
theorem d_Mo_lays2_held_now_9 : decode prog_13_method_37_code 9 = .ok (.iaload, 1) := by decide +kernel
theorem d_Mo_lays2_held_now_10 : decode prog_13_method_37_code 10 = .ok (.imul, 1) := by decide +kernel
theorem d_Mo_lays2_held_now_11 : decode prog_13_method_37_code 11 = .ok (.iadd, 1) := by decide +kernel
theorem d_Mo_lays2_held_now_12 : decode prog_13_method_37_code 12 = .ok (.istore 4, 2) := by decide +kernel
theorem d_Mo_lays2_held_now_14 : decode prog_13_method_37_code 14 = .ok (.iconst 0, 1) := by decide +kernel
theorem d_Mo_lays2_held_now_15 : decode prog_13_method_37_code 15 = .ok (.istore 5, 2) := by decide +kernel
theorem d_Mo_lays2_held_now_17 : decode prog_13_method_37_code 17 = .ok (.iload 5, 2) := by decide +kernel
theorem d_Mo_lays2_held_now_19 : decode prog_13_method_37_code 19 = .ok (.iload 4, 2) := by decide +kernel
theorem d_Mo_lays2_held_now_21 : decode prog_13_method_37_code 21 = .ok (.if_icmp .ge 21, 3) := by decide +kernel
theorem d_Mo_lays2_held_now_24 : decode prog_13_method_37_code 24 = .ok (.aload_n 2, 1) := by decide +kernel
theorem d_Mo_lays2_held_now_25 : decode prog_13_method_37_code 25 = .ok (.iload_n 3, 1) := by decide +kernel
theorem d_Mo_lays2_held_now_26 : decode prog_13_method_37_code 26 = .ok (.iload 5, 2) := by decide +kernel
theorem d_Mo_lays2_held_now_28 : decode prog_13_method_37_code 28 = .ok (.iadd, 1) := by decide +kernel
theorem d_Mo_lays2_held_now_29 : decode prog_13_method_37_code 29 = .ok (.aload_n 0, 1) := by decide +kernel
theorem d_Mo_lays2_held_now_30 : decode prog_13_method_37_code 30 = .ok (.iload_n 1, 1) := by decide +kernel
theorem d_Mo_lays2_held_now_31 : decode prog_13_method_37_code 31 = .ok (.iload 5, 2) := by decide +kernel
theorem d_Mo_lays2_held_now_33 : decode prog_13_method_37_code 33 = .ok (.iadd, 1) := by decide +kernel
theorem d_Mo_lays2_held_now_34 : decode prog_13_method_37_code 34 = .ok (.iaload, 1) := by decide +kernel
theorem d_Mo_lays2_held_now_35 : decode prog_13_method_37_code 35 = .ok (.iastore, 1) := by decide +kernel
theorem d_Mo_lays2_held_now_36 : decode prog_13_method_37_code 36 = .ok (.iinc 5 1, 3) := by decide +kernel
theorem d_Mo_lays2_held_now_39 : decode prog_13_method_37_code 39 = .ok (.goto (-22), 3) := by decide +kernel
theorem d_Mo_lays2_held_now_42 : decode prog_13_method_37_code 42 = .ok (.return_, 1) := by decide +kernel
def wp_Mo_lays2_held_now_b17   (Q : sx_M → sx_L → Prop) : Nat → Int32 → Int32 → Int32 → Int32 → sx_M → sx_L → Prop
  | 0, _, _, _, _, _, _ => False
  | f + 1, v1, v3, v4, v5, σ, τ => if v4 ≤ v5 then (Q σ τ) else (vp_in (v1 + v5) 1929 ∧ (vp_in (v3 + v5) 643 ∧ (∀ σ4 : sx_M, σ4 = sx_u σ 67 0 0 (v3 + v5).toNatClampNeg (σ 72 0 0 (v1 + v5).toNatClampNeg) → (wp_Mo_lays2_held_now_b17 Q f v1 v3 v4 (v5 + 1) σ4 τ))))
def wp_Mo_lays2_held_now (x1 : Int32) (x3 : Int32) (σ : sx_M) (τ : sx_L) (Q : sx_M → sx_L → Prop) : Prop := vp_in (x1 + 7) 1929 ∧ (∃ f17, wp_Mo_lays2_held_now_b17 Q f17 x1 x3 (243 + (2 * (σ 72 0 0 (x1 + 7).toNatClampNeg))) 0 σ τ)
abbrev rm_Mo_lays2_held_now : Room := { frames := 0, cells := 0, slots := 0, locals := 0 }
set_option maxRecDepth 100000 in
set_option maxHeartbeats 4000000 in
theorem g_Mo_lays2_held_now_b17 {l : Launch} {K : sx_K} {X : sx_T}   {Q : sx_M → sx_L → Prop} (hX : sx_C X K prog_13_method_37_code 6 "SensorTreeModel" none rm_Mo_lays2_held_now l) (hK : kx_F K) (hE : sx_E X K (sx_Qv K Q))  : ∀ (f : Nat) (v1 : Int32) (v3 : Int32) (v4 : Int32) (v5 : Int32) (σ : sx_M) (τ : sx_L) , wp_Mo_lays2_held_now_b17 Q f v1 v3 v4 v5 σ τ → sx_G X K 6 17 [(0, .ref (K.2.2.1 72 0 0)), (1, .int v1), (2, .ref (K.2.2.1 67 0 0)), (3, .int v3), (4, .int v4), (5, .int v5)] [] (sx_H K σ τ) := by
  intro f
  induction f with
  | zero => intro v1 v3 v4 v5 σ τ h; exact (show False from h).elim
  | succ f ih =>
    intro v1 v3 v4 v5 σ τ h
    rw [wp_Mo_lays2_held_now_b17] at h
    refine sx_iload (pc2 := 19) hX 5 d_Mo_lays2_held_now_17 rfl rfl ?_
    refine sx_iload (pc2 := 21) hX 4 d_Mo_lays2_held_now_19 rfl rfl ?_
    refine sx_icmp_ge (tgt := 42) (pc2 := 24) hX d_Mo_lays2_held_now_21 (by decide) rfl (fun hc1 => ?_) (fun hc1 => ?_)
    · replace h := sx_t h hc1
      exact sx_vret hX hE h d_Mo_lays2_held_now_42
    · replace h := sx_f h hc1
      refine sx_aload_n (pc2 := 25) hX 2 d_Mo_lays2_held_now_24 rfl rfl rfl ?_
      refine sx_iload_n (pc2 := 26) hX 3 d_Mo_lays2_held_now_25 rfl rfl rfl ?_
      refine sx_iload (pc2 := 28) hX 5 d_Mo_lays2_held_now_26 rfl rfl ?_
      refine sx_iadd (pc2 := 29) hX d_Mo_lays2_held_now_28 rfl ?_
      refine sx_aload_n (pc2 := 30) hX 0 d_Mo_lays2_held_now_29 rfl rfl rfl ?_
      refine sx_iload_n (pc2 := 31) hX 1 d_Mo_lays2_held_now_30 rfl rfl rfl ?_
      refine sx_iload (pc2 := 33) hX 5 d_Mo_lays2_held_now_31 rfl rfl ?_
      refine sx_iadd (pc2 := 34) hX d_Mo_lays2_held_now_33 rfl ?_
      obtain ⟨hc2, h⟩ := h
      refine sx_iald (pc2 := 35) hX (kr_72 hK) rfl hc2 d_Mo_lays2_held_now_34 rfl ?_
      obtain ⟨hc3, h⟩ := h
      refine sx_iast (pc2 := 36) hX (kr_67 hK) (fun _ => rfl) hc3 d_Mo_lays2_held_now_35 rfl ?_
      refine sx_nm (fun σ4 e4 => ?_)
      replace h := h σ4 e4
      refine sx_iinc (pc2 := 39) hX 5 _ [(0, .ref (K.2.2.1 72 0 0)), (1, .int v1), (2, .ref (K.2.2.1 67 0 0)), (3, .int v3), (4, .int v4), (5, .int (v5 + 1))] [1, 2, 3, 4, 5, 0] d_Mo_lays2_held_now_36 rfl (v5 + 1) rfl (by decide) rfl rfl rfl ?_
      refine sx_goto (tgt := 17) hX d_Mo_lays2_held_now_39 (by decide) ?_
      exact ih v1 v3 v4 (v5 + 1) _ _ h
set_option maxRecDepth 100000 in
set_option maxHeartbeats 4000000 in
theorem c_Mo_lays2_held_now {l : Launch} {K : sx_K} (hK : kx_F K) (x1 : Int32) (x3 : Int32) (σ : sx_M) (τ : sx_L) (Q : sx_M → sx_L → Prop)  (h : wp_Mo_lays2_held_now x1 x3 σ τ Q) : Met l y_Mo_lays2_held_now (sx_wd y_Mo_lays2_held_now prog_13_method_37_code 6 none) rm_Mo_lays2_held_now (sx_Pc K [.ref (K.2.2.1 72 0 0), .int x1, .ref (K.2.2.1 67 0 0), .int x3] σ τ) (sx_Qv K Q) 0 0 (sx_A K) := by
  refine sx_met (by decide) (Nat.le_of_ble_eq_true rfl) (fun X hX hE => ?_)
  replace hX : sx_C X K prog_13_method_37_code 6 "SensorTreeModel" none rm_Mo_lays2_held_now l := hX
  show sx_G X K 6 0 [(0, .ref (K.2.2.1 72 0 0)), (1, .int x1), (2, .ref (K.2.2.1 67 0 0)), (3, .int x3)] [] (sx_H K σ τ)
  unfold wp_Mo_lays2_held_now at h
  refine sx_sipush (v := 243) (pc2 := 3) hX d_Mo_lays2_held_now_0 (by decide) rfl ?_
  refine sx_iconst (v := 2) (pc2 := 4) hX d_Mo_lays2_held_now_3 (by decide) rfl ?_
  refine sx_aload_n (pc2 := 5) hX 0 d_Mo_lays2_held_now_4 rfl rfl rfl ?_
  refine sx_iload_n (pc2 := 6) hX 1 d_Mo_lays2_held_now_5 rfl rfl rfl ?_
  refine sx_bipush (v := 7) (pc2 := 8) hX d_Mo_lays2_held_now_6 (by decide) rfl ?_
  refine sx_iadd (pc2 := 9) hX d_Mo_lays2_held_now_8 rfl ?_
  obtain ⟨hc5, h⟩ := h
  refine sx_iald (pc2 := 10) hX (kr_72 hK) rfl hc5 d_Mo_lays2_held_now_9 rfl ?_
  refine sx_imul (pc2 := 11) hX d_Mo_lays2_held_now_10 rfl ?_
  refine sx_iadd (pc2 := 12) hX d_Mo_lays2_held_now_11 rfl ?_
  refine sx_istore (pc2 := 14) hX _ [(0, .ref (K.2.2.1 72 0 0)), (1, .int x1), (2, .ref (K.2.2.1 67 0 0)), (3, .int x3), (4, .int (243 + (2 * (σ 72 0 0 (x1 + 7).toNatClampNeg))))] [1, 2, 3, 4, 0] d_Mo_lays2_held_now_12 (by decide) rfl rfl rfl ?_
  refine sx_iconst (v := 0) (pc2 := 15) hX d_Mo_lays2_held_now_14 (by decide) rfl ?_
  refine sx_istore (pc2 := 17) hX _ [(0, .ref (K.2.2.1 72 0 0)), (1, .int x1), (2, .ref (K.2.2.1 67 0 0)), (3, .int x3), (4, .int (243 + (2 * (σ 72 0 0 (x1 + 7).toNatClampNeg)))), (5, .int 0)] [1, 2, 3, 4, 5, 0] d_Mo_lays2_held_now_15 (by decide) rfl rfl rfl ?_
  obtain ⟨f17, h⟩ := h
  exact g_Mo_lays2_held_now_b17 hX hK hE   f17 x1 x3 (243 + (2 * (σ 72 0 0 (x1 + 7).toNatClampNeg))) 0 _ _ h
theorem cl_Mo_220_held_now {X : sx_T} {K : sx_K} {cc : ByteArray} {nL : Nat} {ret : Option FieldType} {rm : Room} {l : Launch} {pc pc2 : Nat} {lv : List (Nat × Value)} {st : List Value} {σ : sx_M} {τ : sx_L} {x1 : Int32} {x3 : Int32} {Q : sx_M → sx_L → Prop} (hX : sx_C X K cc nL "SensorTreeModel" ret rm l) (hK : kx_F K) (h : wp_Mo_lays2_held_now x1 x3 σ τ Q)  (hR : rm_Mo_lays2_held_now.frames + 1 ≤ rm.frames ∧ 8 + (6 + 11) + rm_Mo_lays2_held_now.locals ≤ rm.locals) (hst : (st.map fun v => v.category).sum ≤ 8) (hd : decode cc pc = .ok (.invokestatic 220, 3)) (hpc : pc + 3 = pc2) (kk : ∀ (σ2 : sx_M) (τ2 : sx_L), Q σ2 τ2 → sx_G X K nL pc2 lv (st) (sx_H K σ2 τ2)) : sx_G X K nL pc lv (.int x3 :: .ref (K.2.2.1 67 0 0) :: .int x1 :: .ref (K.2.2.1 72 0 0) :: st) (sx_H K σ τ) :=
  sx_callSv (Q := Q) (As := [.ref (K.2.2.1 72 0 0), .int x1, .ref (K.2.2.1 67 0 0), .int x3]) hX (c_Mo_lays2_held_now hK x1 x3 σ τ Q  h) lk_445 hy_Mo_lays2_held_now lk_443 lk_364 lk_444 ⟨rfl, rfl⟩ hR hst rfl hd hpc kk
def y_Mo_keepsRow : MethodName := ⟨"SensorTreeModel", "keepsRow", "()V"⟩
theorem hy_Mo_keepsRow : y_Mo_keepsRow.cls ≠ "java/lang/invoke/MethodHandle" ∧ y_Mo_keepsRow.cls ≠ "java/lang/invoke/VarHandle" ∧ (parseMethodDescriptor y_Mo_keepsRow.desc).map (fun d => d.parameters.length) = some 0 := by decide +kernel
theorem d_Mo_keepsRow_0 : decode prog_13_method_38_code 0 = .ok (.aload_n 0, 1) := by decide +kernel
theorem d_Mo_keepsRow_1 : decode prog_13_method_38_code 1 = .ok (.getfield 71, 3) := by decide +kernel
theorem d_Mo_keepsRow_4 : decode prog_13_method_38_code 4 = .ok (.iconst 0, 1) := by decide +kernel
theorem d_Mo_keepsRow_5 : decode prog_13_method_38_code 5 = .ok (.aload_n 0, 1) := by decide +kernel
theorem d_Mo_keepsRow_6 : decode prog_13_method_38_code 6 = .ok (.getfield 68, 3) := by decide +kernel
theorem d_Mo_keepsRow_9 : decode prog_13_method_38_code 9 = .ok (.iconst 0, 1) := by decide +kernel
theorem d_Mo_keepsRow_10 : decode prog_13_method_38_code 10 = .ok (.invokestatic 220, 3) := by decide +kernel
theorem d_Mo_keepsRow_13 : decode prog_13_method_38_code 13 = .ok (.return_, 1) := by decide +kernel
def wp_Mo_keepsRow  (σ : sx_M) (τ : sx_L) (Q : sx_M → sx_L → Prop) : Prop := wp_Mo_lays2_row_now (0 : Int32) (0 : Int32) σ τ (fun σ1 τ1 => Q σ1 τ1)
abbrev rm_Mo_keepsRow : Room := { frames := 1, cells := 0, slots := 0, locals := 25 }
set_option maxRecDepth 100000 in
set_option maxHeartbeats 4000000 in
theorem c_Mo_keepsRow {l : Launch} {K : sx_K} (hK : kx_F K)  (σ : sx_M) (τ : sx_L) (Q : sx_M → sx_L → Prop)  (h : wp_Mo_keepsRow σ τ Q) : Met l y_Mo_keepsRow (sx_wd y_Mo_keepsRow prog_13_method_38_code 1 none) rm_Mo_keepsRow (sx_Pc K [.ref (K.2.2.1 50 0 0)] σ τ) (sx_Qv K Q) 0 0 (sx_A K) := by
  refine sx_met (by decide) (Nat.le_of_ble_eq_true rfl) (fun X hX hE => ?_)
  replace hX : sx_C X K prog_13_method_38_code 1 "SensorTreeModel" none rm_Mo_keepsRow l := hX
  show sx_G X K 1 0 [(0, .ref (K.2.2.1 50 0 0))] [] (sx_H K σ τ)
  unfold wp_Mo_keepsRow at h
  refine sx_aload_n (pc2 := 1) hX 0 d_Mo_keepsRow_0 rfl rfl rfl ?_
  refine fg_Mo_71 (pc2 := 4) hX (kr_50 hK) d_Mo_keepsRow_1 rfl ?_
  refine sx_iconst (v := 0) (pc2 := 5) hX d_Mo_keepsRow_4 (by decide) rfl ?_
  refine sx_aload_n (pc2 := 6) hX 0 d_Mo_keepsRow_5 rfl rfl rfl ?_
  refine fg_Mo_68 (pc2 := 9) hX (kr_50 hK) d_Mo_keepsRow_6 rfl ?_
  refine sx_iconst (v := 0) (pc2 := 10) hX d_Mo_keepsRow_9 (by decide) rfl ?_
  refine cl_Mo_220_row_now (pc2 := 13) hX hK h  ⟨Nat.le_of_ble_eq_true rfl, Nat.le_of_ble_eq_true rfl⟩ (Nat.le_of_ble_eq_true rfl) d_Mo_keepsRow_10 rfl (fun σ1 τ1 h => ?_)
  exact sx_vret hX hE h d_Mo_keepsRow_13
theorem cl_Mo_103 {X : sx_T} {K : sx_K} {cc : ByteArray} {nL : Nat} {ret : Option FieldType} {rm : Room} {l : Launch} {pc pc2 : Nat} {lv : List (Nat × Value)} {st : List Value} {σ : sx_M} {τ : sx_L}  {Q : sx_M → sx_L → Prop} (hX : sx_C X K cc nL "SensorTreeModel" ret rm l) (hK : kx_F K) (h : wp_Mo_keepsRow  σ τ Q)  (hR : rm_Mo_keepsRow.frames + 1 ≤ rm.frames ∧ 8 + (1 + 11) + rm_Mo_keepsRow.locals ≤ rm.locals) (hst : (st.map fun v => v.category).sum ≤ 8) (hd : decode cc pc = .ok (.invokevirtual 103, 3)) (hpc : pc + 3 = pc2) (kk : ∀ (σ2 : sx_M) (τ2 : sx_L), Q σ2 τ2 → sx_G X K nL pc2 lv (st) (sx_H K σ2 τ2)) : sx_G X K nL pc lv (.ref (K.2.2.1 50 0 0) :: st) (sx_H K σ τ) :=
  sx_callVv (Q := Q) (As := []) hX (c_Mo_keepsRow hK  σ τ Q  h) (kr_50 hK) rfl rfl lk_451 ls_44 hy_Mo_keepsRow lk_449 lk_364 lk_450 ⟨rfl, rfl⟩ hR hst rfl hd hpc kk
def y_Mo_read : MethodName := ⟨"SensorTreeModel", "read", "()I"⟩
theorem hy_Mo_read : y_Mo_read.cls ≠ "java/lang/invoke/MethodHandle" ∧ y_Mo_read.cls ≠ "java/lang/invoke/VarHandle" ∧ (parseMethodDescriptor y_Mo_read.desc).map (fun d => d.parameters.length) = some 0 := by decide +kernel
theorem d_Mo_read_0 : decode prog_13_method_22_code 0 = .ok (.aload_n 0, 1) := by decide +kernel
theorem d_Mo_read_1 : decode prog_13_method_22_code 1 = .ok (.aload_n 0, 1) := by decide +kernel
theorem d_Mo_read_2 : decode prog_13_method_22_code 2 = .ok (.getfield 106, 3) := by decide +kernel
theorem d_Mo_read_5 : decode prog_13_method_22_code 5 = .ok (.putfield 112, 3) := by decide +kernel
theorem d_Mo_read_8 : decode prog_13_method_22_code 8 = .ok (.iconst 0, 1) := by decide +kernel
theorem d_Mo_read_9 : decode prog_13_method_22_code 9 = .ok (.istore_n 1, 1) := by decide +kernel
theorem d_Mo_read_10 : decode prog_13_method_22_code 10 = .ok (.iload_n 1, 1) := by decide +kernel
theorem d_Mo_read_11 : decode prog_13_method_22_code 11 = .ok (.aload_n 0, 1) := by decide +kernel
theorem d_Mo_read_12 : decode prog_13_method_22_code 12 = .ok (.getfield 112, 3) := by decide +kernel
theorem d_Mo_read_15 : decode prog_13_method_22_code 15 = .ok (.if_icmp .ge 21, 3) := by decide +kernel
theorem d_Mo_read_18 : decode prog_13_method_22_code 18 = .ok (.aload_n 0, 1) := by decide +kernel
theorem d_Mo_read_19 : decode prog_13_method_22_code 19 = .ok (.getfield 17, 3) := by decide +kernel
theorem d_Mo_read_22 : decode prog_13_method_22_code 22 = .ok (.iload_n 1, 1) := by decide +kernel
theorem d_Mo_read_23 : decode prog_13_method_22_code 23 = .ok (.aload_n 0, 1) := by decide +kernel
theorem d_Mo_read_24 : decode prog_13_method_22_code 24 = .ok (.getfield 13, 3) := by decide +kernel
theorem d_Mo_read_27 : decode prog_13_method_22_code 27 = .ok (.iload_n 1, 1) := by decide +kernel
theorem d_Mo_read_28 : decode prog_13_method_22_code 28 = .ok (.baload, 1) := by decide +kernel
theorem d_Mo_read_29 : decode prog_13_method_22_code 29 = .ok (.bastore, 1) := by decide +kernel
theorem d_Mo_read_30 : decode prog_13_method_22_code 30 = .ok (.iinc 1 1, 3) := by decide +kernel
theorem d_Mo_read_33 : decode prog_13_method_22_code 33 = .ok (.goto (-23), 3) := by decide +kernel
theorem d_Mo_read_36 : decode prog_13_method_22_code 36 = .ok (.aload_n 0, 1) := by decide +kernel
theorem d_Mo_read_37 : decode prog_13_method_22_code 37 = .ok (.iconst 0, 1) := by decide +kernel
theorem d_Mo_read_38 : decode prog_13_method_22_code 38 = .ok (.putfield 106, 3) := by decide +kernel
theorem d_Mo_read_41 : decode prog_13_method_22_code 41 = .ok (.aload_n 0, 1) := by decide +kernel
theorem d_Mo_read_42 : decode prog_13_method_22_code 42 = .ok (.invokevirtual 167, 3) := by decide +kernel
theorem d_Mo_read_45 : decode prog_13_method_22_code 45 = .ok (.aload_n 0, 1) := by decide +kernel
theorem d_Mo_read_46 : decode prog_13_method_22_code 46 = .ok (.iconst 0, 1) := by decide +kernel
theorem d_Mo_read_47 : decode prog_13_method_22_code 47 = .ok (.putfield 146, 3) := by decide +kernel
theorem d_Mo_read_50 : decode prog_13_method_22_code 50 = .ok (.aload_n 0, 1) := by decide +kernel
theorem d_Mo_read_51 : decode prog_13_method_22_code 51 = .ok (.iconst 0, 1) := by decide +kernel
theorem d_Mo_read_52 : decode prog_13_method_22_code 52 = .ok (.putfield 143, 3) := by decide +kernel
theorem d_Mo_read_55 : decode prog_13_method_22_code 55 = .ok (.aload_n 0, 1) := by decide +kernel
theorem d_Mo_read_56 : decode prog_13_method_22_code 56 = .ok (.iconst 0, 1) := by decide +kernel
theorem d_Mo_read_57 : decode prog_13_method_22_code 57 = .ok (.putfield 152, 3) := by decide +kernel
theorem d_Mo_read_60 : decode prog_13_method_22_code 60 = .ok (.aload_n 0, 1) := by decide +kernel
theorem d_Mo_read_61 : decode prog_13_method_22_code 61 = .ok (.iconst 1, 1) := by decide +kernel
theorem d_Mo_read_62 : decode prog_13_method_22_code 62 = .ok (.aload_n 0, 1) := by decide +kernel
theorem d_Mo_read_63 : decode prog_13_method_22_code 63 = .ok (.getfield 170, 3) := by decide +kernel
theorem d_Mo_read_66 : decode prog_13_method_22_code 66 = .ok (.isub, 1) := by decide +kernel
theorem d_Mo_read_67 : decode prog_13_method_22_code 67 = .ok (.putfield 173, 3) := by decide +kernel
theorem d_Mo_read_70 : decode prog_13_method_22_code 70 = .ok (.aload_n 0, 1) := by decide +kernel
theorem d_Mo_read_71 : decode prog_13_method_22_code 71 = .ok (.aload_n 0, 1) := by decide +kernel
theorem d_Mo_read_72 : decode prog_13_method_22_code 72 = .ok (.getfield 173, 3) := by decide +kernel
theorem d_Mo_read_75 : decode prog_13_method_22_code 75 = .ok (.invokevirtual 96, 3) := by decide +kernel
theorem d_Mo_read_78 : decode prog_13_method_22_code 78 = .ok (.aload_n 0, 1) := by decide +kernel
theorem d_Mo_read_79 : decode prog_13_method_22_code 79 = .ok (.getfield 143, 3) := by decide +kernel
theorem d_Mo_read_82 : decode prog_13_method_22_code 82 = .ok (.ifCond .ne 18, 3) := by decide +kernel
theorem d_Mo_read_85 : decode prog_13_method_22_code 85 = .ok (.aload_n 0, 1) := by decide +kernel
theorem d_Mo_read_86 : decode prog_13_method_22_code 86 = .ok (.iconst 0, 1) := by decide +kernel
theorem d_Mo_read_87 : decode prog_13_method_22_code 87 = .ok (.invokevirtual 161, 3) := by decide +kernel
theorem d_Mo_read_90 : decode prog_13_method_22_code 90 = .ok (.ifCond .ne 10, 3) := by decide +kernel
theorem d_Mo_read_93 : decode prog_13_method_22_code 93 = .ok (.aload_n 0, 1) := by decide +kernel
theorem d_Mo_read_94 : decode prog_13_method_22_code 94 = .ok (.invokevirtual 176, 3) := by decide +kernel
theorem d_Mo_read_97 : decode prog_13_method_22_code 97 = .ok (.goto (-19), 3) := by decide +kernel
theorem d_Mo_read_100 : decode prog_13_method_22_code 100 = .ok (.aload_n 0, 1) := by decide +kernel
theorem d_Mo_read_101 : decode prog_13_method_22_code 101 = .ok (.aload_n 0, 1) := by decide +kernel
theorem d_Mo_read_102 : decode prog_13_method_22_code 102 = .ok (.getfield 143, 3) := by decide +kernel
theorem d_Mo_read_105 : decode prog_13_method_22_code 105 = .ok (.ifCond .le 10, 3) := by decide +kernel
theorem d_Mo_read_108 : decode prog_13_method_22_code 108 = .ok (.aload_n 0, 1) := by decide +kernel
theorem d_Mo_read_109 : decode prog_13_method_22_code 109 = .ok (.getfield 149, 3) := by decide +kernel
theorem d_Mo_read_112 : decode prog_13_method_22_code 112 = .ok (.goto 18, 3) := by decide +kernel
theorem d_Mo_read_115 : decode prog_13_method_22_code 115 = .ok (.aload_n 0, 1) := by decide +kernel
theorem d_Mo_read_116 : decode prog_13_method_22_code 116 = .ok (.getfield 152, 3) := by decide +kernel
theorem d_Mo_read_119 : decode prog_13_method_22_code 119 = .ok (.ifCond .le 10, 3) := by decide +kernel
theorem d_Mo_read_122 : decode prog_13_method_22_code 122 = .ok (.aload_n 0, 1) := by decide +kernel
theorem d_Mo_read_123 : decode prog_13_method_22_code 123 = .ok (.getfield 155, 3) := by decide +kernel
theorem d_Mo_read_126 : decode prog_13_method_22_code 126 = .ok (.goto 4, 3) := by decide +kernel
theorem d_Mo_read_129 : decode prog_13_method_22_code 129 = .ok (.iconst (-1), 1) := by decide +kernel
theorem d_Mo_read_130 : decode prog_13_method_22_code 130 = .ok (.putfield 37, 3) := by decide +kernel
theorem d_Mo_read_133 : decode prog_13_method_22_code 133 = .ok (.aload_n 0, 1) := by decide +kernel
theorem d_Mo_read_134 : decode prog_13_method_22_code 134 = .ok (.getfield 143, 3) := by decide +kernel
theorem d_Mo_read_137 : decode prog_13_method_22_code 137 = .ok (.ifCond .le 8, 3) := by decide +kernel
theorem d_Mo_read_140 : decode prog_13_method_22_code 140 = .ok (.aload_n 0, 1) := by decide +kernel
theorem d_Mo_read_141 : decode prog_13_method_22_code 141 = .ok (.getfield 143, 3) := by decide +kernel
theorem d_Mo_read_144 : decode prog_13_method_22_code 144 = .ok (.ireturn, 1) := by decide +kernel
theorem d_Mo_read_145 : decode prog_13_method_22_code 145 = .ok (.aload_n 0, 1) := by decide +kernel
theorem d_Mo_read_146 : decode prog_13_method_22_code 146 = .ok (.getfield 152, 3) := by decide +kernel
theorem d_Mo_read_149 : decode prog_13_method_22_code 149 = .ok (.ifCond .le 8, 3) := by decide +kernel
theorem d_Mo_read_152 : decode prog_13_method_22_code 152 = .ok (.aload_n 0, 1) := by decide +kernel
theorem d_Mo_read_153 : decode prog_13_method_22_code 153 = .ok (.getfield 152, 3) := by decide +kernel
theorem d_Mo_read_156 : decode prog_13_method_22_code 156 = .ok (.ireturn, 1) := by decide +kernel
theorem d_Mo_read_157 : decode prog_13_method_22_code 157 = .ok (.aload_n 0, 1) := by decide +kernel
theorem d_Mo_read_158 : decode prog_13_method_22_code 158 = .ok (.aload_n 0, 1) := by decide +kernel
theorem d_Mo_read_159 : decode prog_13_method_22_code 159 = .ok (.getfield 173, 3) := by decide +kernel
theorem d_Mo_read_162 : decode prog_13_method_22_code 162 = .ok (.putfield 170, 3) := by decide +kernel
theorem d_Mo_read_165 : decode prog_13_method_22_code 165 = .ok (.aload_n 0, 1) := by decide +kernel
theorem d_Mo_read_166 : decode prog_13_method_22_code 166 = .ok (.invokevirtual 100, 3) := by decide +kernel
theorem d_Mo_read_169 : decode prog_13_method_22_code 169 = .ok (.aload_n 0, 1) := by decide +kernel
theorem d_Mo_read_170 : decode prog_13_method_22_code 170 = .ok (.invokevirtual 103, 3) := by decide +kernel
theorem d_Mo_read_173 : decode prog_13_method_22_code 173 = .ok (.aload_n 0, 1) := by decide +kernel
theorem d_Mo_read_174 : decode prog_13_method_22_code 174 = .ok (.iconst 0, 1) := by decide +kernel
theorem d_Mo_read_175 : decode prog_13_method_22_code 175 = .ok (.putfield 179, 3) := by decide +kernel
theorem d_Mo_read_178 : decode prog_13_method_22_code 178 = .ok (.iconst 0, 1) := by decide +kernel
theorem d_Mo_read_179 : decode prog_13_method_22_code 179 = .ok (.istore_n 1, 1) := by decide +kernel
theorem d_Mo_read_180 : decode prog_13_method_22_code 180 = .ok (.iload_n 1, 1) := by decide +kernel
theorem d_Mo_read_181 : decode prog_13_method_22_code 181 = .ok (.iconst 3, 1) := by decide +kernel
theorem d_Mo_read_182 : decode prog_13_method_22_code 182 = .ok (.if_icmp .ge 16, 3) := by decide +kernel
theorem d_Mo_read_185 : decode prog_13_method_22_code 185 = .ok (.aload_n 0, 1) := by decide +kernel
theorem d_Mo_read_186 : decode prog_13_method_22_code 186 = .ok (.getfield 86, 3) := by decide +kernel
theorem d_Mo_read_189 : decode prog_13_method_22_code 189 = .ok (.iload_n 1, 1) := by decide +kernel
theorem d_Mo_read_190 : decode prog_13_method_22_code 190 = .ok (.iconst 0, 1) := by decide +kernel
theorem d_Mo_read_191 : decode prog_13_method_22_code 191 = .ok (.bastore, 1) := by decide +kernel
theorem d_Mo_read_192 : decode prog_13_method_22_code 192 = .ok (.iinc 1 1, 3) := by decide +kernel
theorem d_Mo_read_195 : decode prog_13_method_22_code 195 = .ok (.goto (-15), 3) := by decide +kernel
theorem d_Mo_read_198 : decode prog_13_method_22_code 198 = .ok (.iconst 0, 1) := by decide +kernel
theorem d_Mo_read_199 : decode prog_13_method_22_code 199 = .ok (.ireturn, 1) := by decide +kernel
def wp_Mo_read_b180   (Q : Int32 → sx_M → sx_L → Prop) : Nat → Int32 → sx_M → sx_L → Prop
  | 0, _, _, _ => False
  | f + 1, v1, σ, τ => if 3 ≤ v1 then (Q 0 σ τ) else (vp_in v1 3 ∧ (∀ σ3 : sx_M, σ3 = sx_u σ 73 0 0 v1.toNatClampNeg (vp_nar .boolean 0) → (wp_Mo_read_b180 Q f (v1 + 1) σ3 τ)))
def wp_Mo_read_b130   (Q : Int32 → sx_M → sx_L → Prop) (w1 : Int32) (σ : sx_M) (τ : sx_L) : Prop := ∀ σ4 : sx_M, σ4 = sx_u σ 50 0 0 16 w1 → (if σ4 50 0 0 12 ≤ 0 then (if σ4 50 0 0 14 ≤ 0 then (∀ σ7 : sx_M, σ7 = sx_u σ4 50 0 0 17 (σ4 50 0 0 18) → (wp_Mo_begins σ7 τ (fun σ8 τ8 => wp_Mo_keepsRow σ8 τ8 (fun σ9 τ9 => ∀ σ10 : sx_M, σ10 = sx_u σ9 50 0 0 37 0 → (∃ f180, wp_Mo_read_b180 Q f180 0 σ10 τ9))))) else (Q (σ4 50 0 0 14) σ4 τ)) else (Q (σ4 50 0 0 12) σ4 τ))
def wp_Mo_read_b100   (Q : Int32 → sx_M → sx_L → Prop)  (σ : sx_M) (τ : sx_L) : Prop := if σ 50 0 0 12 ≤ 0 then (if σ 50 0 0 14 ≤ 0 then (wp_Mo_read_b130 Q (-1) σ τ) else (wp_Mo_read_b130 Q (σ 50 0 0 15) σ τ)) else (wp_Mo_read_b130 Q (σ 50 0 0 13) σ τ)
def wp_Mo_read_b78   (Q : Int32 → sx_M → sx_L → Prop) : Nat → sx_M → sx_L → Prop
  | 0, _, _ => False
  | f + 1, σ, τ => if σ 50 0 0 12 = 0 then (wp_Mo_is (0 : Int32) σ τ (fun r14 σ14 τ14 => if r14 = 0 then (wp_Mo_tellOne σ14 τ14 (fun σ16 τ16 => wp_Mo_read_b78 Q f σ16 τ16)) else (wp_Mo_read_b100 Q σ14 τ14))) else (wp_Mo_read_b100 Q σ τ)
def wp_Mo_read_b10   (Q : Int32 → sx_M → sx_L → Prop) : Nat → Int32 → sx_M → sx_L → Prop
  | 0, _, _, _ => False
  | f + 1, v1, σ, τ => if σ 50 0 0 4 ≤ v1 then (∀ σ18 : sx_M, σ18 = sx_u σ 50 0 0 2 0 → (wp_Mo_parts σ18 τ (fun σ19 τ19 => ∀ σ20 : sx_M, σ20 = sx_u σ19 50 0 0 11 0 → (∀ σ21 : sx_M, σ21 = sx_u σ20 50 0 0 12 0 → (∀ σ22 : sx_M, σ22 = sx_u σ21 50 0 0 14 0 → (∀ σ23 : sx_M, σ23 = sx_u σ22 50 0 0 18 (1 - (σ22 50 0 0 17)) → (wp_Mo_plain (σ23 50 0 0 18) σ23 τ19 (fun σ24 τ24 => ∃ f78, wp_Mo_read_b78 Q f78 σ24 τ24)))))))) else (vp_in v1 2000 ∧ (vp_in v1 2000 ∧ (∀ σ27 : sx_M, σ27 = sx_u σ 52 0 0 v1.toNatClampNeg (vp_nar .byte (σ 51 0 0 v1.toNatClampNeg)) → (wp_Mo_read_b10 Q f (v1 + 1) σ27 τ))))
def wp_Mo_read  (σ : sx_M) (τ : sx_L) (Q : Int32 → sx_M → sx_L → Prop) : Prop := ∀ σ28 : sx_M, σ28 = sx_u σ 50 0 0 4 (σ 50 0 0 2) → (∃ f10, wp_Mo_read_b10 Q f10 0 σ28 τ)
abbrev rm_Mo_read : Room := { frames := 5, cells := 0, slots := 0, locals := 113 }
set_option maxRecDepth 100000 in
set_option maxHeartbeats 4000000 in
theorem g_Mo_read_b180 {l : Launch} {K : sx_K} {X : sx_T}   {Q : Int32 → sx_M → sx_L → Prop} (hX : sx_C X K prog_13_method_22_code 2 "SensorTreeModel" (some .int) rm_Mo_read l) (hK : kx_F K) (hE : sx_E X K (sx_Qi K Q))  : ∀ (f : Nat) (v1 : Int32) (σ : sx_M) (τ : sx_L) , wp_Mo_read_b180 Q f v1 σ τ → sx_G X K 2 180 [(0, .ref (K.2.2.1 50 0 0)), (1, .int v1)] [] (sx_H K σ τ) := by
  intro f
  induction f with
  | zero => intro v1 σ τ h; exact (show False from h).elim
  | succ f ih =>
    intro v1 σ τ h
    rw [wp_Mo_read_b180] at h
    refine sx_iload_n (pc2 := 181) hX 1 d_Mo_read_180 rfl rfl rfl ?_
    refine sx_iconst (v := 3) (pc2 := 182) hX d_Mo_read_181 (by decide) rfl ?_
    refine sx_icmp_ge (tgt := 198) (pc2 := 185) hX d_Mo_read_182 (by decide) rfl (fun hc1 => ?_) (fun hc1 => ?_)
    · replace h := sx_t h hc1
      refine sx_iconst (v := 0) (pc2 := 199) hX d_Mo_read_198 (by decide) rfl ?_
      exact sx_iret hX hE h d_Mo_read_199
    · replace h := sx_f h hc1
      refine sx_aload_n (pc2 := 186) hX 0 d_Mo_read_185 rfl rfl rfl ?_
      refine fg_Mo_86 (pc2 := 189) hX (kr_50 hK) d_Mo_read_186 rfl ?_
      refine sx_iload_n (pc2 := 190) hX 1 d_Mo_read_189 rfl rfl rfl ?_
      refine sx_iconst (v := 0) (pc2 := 191) hX d_Mo_read_190 (by decide) rfl ?_
      obtain ⟨hc2, h⟩ := h
      refine sx_zast (pc2 := 192) hX (kr_73 hK) (fun _ => rfl) hc2 d_Mo_read_191 rfl ?_
      refine sx_nm (fun σ3 e3 => ?_)
      replace h := h σ3 e3
      refine sx_iinc (pc2 := 195) hX 1 _ [(0, .ref (K.2.2.1 50 0 0)), (1, .int (v1 + 1))] [1, 0] d_Mo_read_192 rfl (v1 + 1) rfl (by decide) rfl rfl rfl ?_
      refine sx_goto (tgt := 180) hX d_Mo_read_195 (by decide) ?_
      exact ih (v1 + 1) _ _ h
set_option maxRecDepth 100000 in
set_option maxHeartbeats 4000000 in
theorem g_Mo_read_b130 {l : Launch} {K : sx_K} {X : sx_T}   {Q : Int32 → sx_M → sx_L → Prop} (hX : sx_C X K prog_13_method_22_code 2 "SensorTreeModel" (some .int) rm_Mo_read l) (hK : kx_F K) (hE : sx_E X K (sx_Qi K Q))  (w1 : Int32) (σ : sx_M) (τ : sx_L)  (h : wp_Mo_read_b130 Q  w1 σ τ) : sx_G X K 2 130 [(0, .ref (K.2.2.1 50 0 0))] [.int w1, .ref (K.2.2.1 50 0 0)] (sx_H K σ τ) := by
  unfold wp_Mo_read_b130 at h
  refine fp_Mo_37 (pc2 := 133) hX (kr_50 hK) d_Mo_read_130 rfl ?_
  refine sx_nm (fun σ4 e4 => ?_)
  replace h := h σ4 e4
  refine sx_aload_n (pc2 := 134) hX 0 d_Mo_read_133 rfl rfl rfl ?_
  refine fg_Mo_143 (pc2 := 137) hX (kr_50 hK) d_Mo_read_134 rfl ?_
  refine sx_if_le (tgt := 145) (pc2 := 140) hX d_Mo_read_137 (by decide) rfl (fun hc5 => ?_) (fun hc5 => ?_)
  · replace h := sx_t h hc5
    refine sx_aload_n (pc2 := 146) hX 0 d_Mo_read_145 rfl rfl rfl ?_
    refine fg_Mo_152 (pc2 := 149) hX (kr_50 hK) d_Mo_read_146 rfl ?_
    refine sx_if_le (tgt := 157) (pc2 := 152) hX d_Mo_read_149 (by decide) rfl (fun hc6 => ?_) (fun hc6 => ?_)
    · replace h := sx_t h hc6
      refine sx_aload_n (pc2 := 158) hX 0 d_Mo_read_157 rfl rfl rfl ?_
      refine sx_aload_n (pc2 := 159) hX 0 d_Mo_read_158 rfl rfl rfl ?_
      refine fg_Mo_173 (pc2 := 162) hX (kr_50 hK) d_Mo_read_159 rfl ?_
      refine fp_Mo_170 (pc2 := 165) hX (kr_50 hK) d_Mo_read_162 rfl ?_
      refine sx_nm (fun σ7 e7 => ?_)
      replace h := h σ7 e7
      refine sx_aload_n (pc2 := 166) hX 0 d_Mo_read_165 rfl rfl rfl ?_
      refine cl_Mo_100 (pc2 := 169) hX hK h  ⟨Nat.le_of_ble_eq_true rfl, Nat.le_of_ble_eq_true rfl⟩ (Nat.le_of_ble_eq_true rfl) d_Mo_read_166 rfl (fun σ8 τ8 h => ?_)
      refine sx_aload_n (pc2 := 170) hX 0 d_Mo_read_169 rfl rfl rfl ?_
      refine cl_Mo_103 (pc2 := 173) hX hK h  ⟨Nat.le_of_ble_eq_true rfl, Nat.le_of_ble_eq_true rfl⟩ (Nat.le_of_ble_eq_true rfl) d_Mo_read_170 rfl (fun σ9 τ9 h => ?_)
      refine sx_aload_n (pc2 := 174) hX 0 d_Mo_read_173 rfl rfl rfl ?_
      refine sx_iconst (v := 0) (pc2 := 175) hX d_Mo_read_174 (by decide) rfl ?_
      refine fp_Mo_179 (pc2 := 178) hX (kr_50 hK) d_Mo_read_175 rfl ?_
      refine sx_nm (fun σ10 e10 => ?_)
      replace h := h σ10 e10
      refine sx_iconst (v := 0) (pc2 := 179) hX d_Mo_read_178 (by decide) rfl ?_
      refine sx_istore_n (pc2 := 180) hX _ [(0, .ref (K.2.2.1 50 0 0)), (1, .int 0)] [1, 0] d_Mo_read_179 rfl (by decide) rfl rfl rfl ?_
      obtain ⟨f180, h⟩ := h
      exact g_Mo_read_b180 hX hK hE   f180 0 _ _ h
    · replace h := sx_f h hc6
      refine sx_aload_n (pc2 := 153) hX 0 d_Mo_read_152 rfl rfl rfl ?_
      refine fg_Mo_152 (pc2 := 156) hX (kr_50 hK) d_Mo_read_153 rfl ?_
      exact sx_iret hX hE h d_Mo_read_156
  · replace h := sx_f h hc5
    refine sx_aload_n (pc2 := 141) hX 0 d_Mo_read_140 rfl rfl rfl ?_
    refine fg_Mo_143 (pc2 := 144) hX (kr_50 hK) d_Mo_read_141 rfl ?_
    exact sx_iret hX hE h d_Mo_read_144
set_option maxRecDepth 100000 in
set_option maxHeartbeats 4000000 in
theorem g_Mo_read_b100 {l : Launch} {K : sx_K} {X : sx_T}   {Q : Int32 → sx_M → sx_L → Prop} (hX : sx_C X K prog_13_method_22_code 2 "SensorTreeModel" (some .int) rm_Mo_read l) (hK : kx_F K) (hE : sx_E X K (sx_Qi K Q))   (σ : sx_M) (τ : sx_L)  (h : wp_Mo_read_b100 Q  σ τ) : sx_G X K 2 100 [(0, .ref (K.2.2.1 50 0 0))] [] (sx_H K σ τ) := by
  unfold wp_Mo_read_b100 at h
  refine sx_aload_n (pc2 := 101) hX 0 d_Mo_read_100 rfl rfl rfl ?_
  refine sx_aload_n (pc2 := 102) hX 0 d_Mo_read_101 rfl rfl rfl ?_
  refine fg_Mo_143 (pc2 := 105) hX (kr_50 hK) d_Mo_read_102 rfl ?_
  refine sx_if_le (tgt := 115) (pc2 := 108) hX d_Mo_read_105 (by decide) rfl (fun hc11 => ?_) (fun hc11 => ?_)
  · replace h := sx_t h hc11
    refine sx_aload_n (pc2 := 116) hX 0 d_Mo_read_115 rfl rfl rfl ?_
    refine fg_Mo_152 (pc2 := 119) hX (kr_50 hK) d_Mo_read_116 rfl ?_
    refine sx_if_le (tgt := 129) (pc2 := 122) hX d_Mo_read_119 (by decide) rfl (fun hc12 => ?_) (fun hc12 => ?_)
    · replace h := sx_t h hc12
      refine sx_iconst (v := (-1)) (pc2 := 130) hX d_Mo_read_129 (by decide) rfl ?_
      exact g_Mo_read_b130 hX hK hE   (-1) _ _ h
    · replace h := sx_f h hc12
      refine sx_aload_n (pc2 := 123) hX 0 d_Mo_read_122 rfl rfl rfl ?_
      refine fg_Mo_155 (pc2 := 126) hX (kr_50 hK) d_Mo_read_123 rfl ?_
      refine sx_goto (tgt := 130) hX d_Mo_read_126 (by decide) ?_
      exact g_Mo_read_b130 hX hK hE   (σ 50 0 0 15) _ _ h
  · replace h := sx_f h hc11
    refine sx_aload_n (pc2 := 109) hX 0 d_Mo_read_108 rfl rfl rfl ?_
    refine fg_Mo_149 (pc2 := 112) hX (kr_50 hK) d_Mo_read_109 rfl ?_
    refine sx_goto (tgt := 130) hX d_Mo_read_112 (by decide) ?_
    exact g_Mo_read_b130 hX hK hE   (σ 50 0 0 13) _ _ h
set_option maxRecDepth 100000 in
set_option maxHeartbeats 4000000 in
theorem g_Mo_read_b78 {l : Launch} {K : sx_K} {X : sx_T}   {Q : Int32 → sx_M → sx_L → Prop} (hX : sx_C X K prog_13_method_22_code 2 "SensorTreeModel" (some .int) rm_Mo_read l) (hK : kx_F K) (hE : sx_E X K (sx_Qi K Q))  : ∀ (f : Nat)  (σ : sx_M) (τ : sx_L) , wp_Mo_read_b78 Q f σ τ → sx_G X K 2 78 [(0, .ref (K.2.2.1 50 0 0))] [] (sx_H K σ τ) := by
  intro f
  induction f with
  | zero => intro σ τ h; exact (show False from h).elim
  | succ f ih =>
    intro σ τ h
    rw [wp_Mo_read_b78] at h
    refine sx_aload_n (pc2 := 79) hX 0 d_Mo_read_78 rfl rfl rfl ?_
    refine fg_Mo_143 (pc2 := 82) hX (kr_50 hK) d_Mo_read_79 rfl ?_
    refine sx_if_ne (tgt := 100) (pc2 := 85) hX d_Mo_read_82 (by decide) rfl (fun hc13 => ?_) (fun hc13 => ?_)
    · replace h := sx_f h hc13
      exact g_Mo_read_b100 hX hK hE   _ _ h
    · replace h := sx_t h hc13
      refine sx_aload_n (pc2 := 86) hX 0 d_Mo_read_85 rfl rfl rfl ?_
      refine sx_iconst (v := 0) (pc2 := 87) hX d_Mo_read_86 (by decide) rfl ?_
      refine cl_Mo_161 (pc2 := 90) hX hK h  ⟨Nat.le_of_ble_eq_true rfl, Nat.le_of_ble_eq_true rfl⟩ (Nat.le_of_ble_eq_true rfl) d_Mo_read_87 rfl (fun r14 σ14 τ14 h => ?_)
      refine sx_if_ne (tgt := 100) (pc2 := 93) hX d_Mo_read_90 (by decide) rfl (fun hc15 => ?_) (fun hc15 => ?_)
      · replace h := sx_f h hc15
        exact g_Mo_read_b100 hX hK hE   _ _ h
      · replace h := sx_t h hc15
        refine sx_aload_n (pc2 := 94) hX 0 d_Mo_read_93 rfl rfl rfl ?_
        refine cl_Mo_176 (pc2 := 97) hX hK h  ⟨Nat.le_of_ble_eq_true rfl, Nat.le_of_ble_eq_true rfl⟩ (Nat.le_of_ble_eq_true rfl) d_Mo_read_94 rfl (fun σ16 τ16 h => ?_)
        refine sx_goto (tgt := 78) hX d_Mo_read_97 (by decide) ?_
        exact ih _ _ h
set_option maxRecDepth 100000 in
set_option maxHeartbeats 4000000 in
theorem g_Mo_read_b10 {l : Launch} {K : sx_K} {X : sx_T}   {Q : Int32 → sx_M → sx_L → Prop} (hX : sx_C X K prog_13_method_22_code 2 "SensorTreeModel" (some .int) rm_Mo_read l) (hK : kx_F K) (hE : sx_E X K (sx_Qi K Q))  : ∀ (f : Nat) (v1 : Int32) (σ : sx_M) (τ : sx_L) , wp_Mo_read_b10 Q f v1 σ τ → sx_G X K 2 10 [(0, .ref (K.2.2.1 50 0 0)), (1, .int v1)] [] (sx_H K σ τ) := by
  intro f
  induction f with
  | zero => intro v1 σ τ h; exact (show False from h).elim
  | succ f ih =>
    intro v1 σ τ h
    rw [wp_Mo_read_b10] at h
    refine sx_iload_n (pc2 := 11) hX 1 d_Mo_read_10 rfl rfl rfl ?_
    refine sx_aload_n (pc2 := 12) hX 0 d_Mo_read_11 rfl rfl rfl ?_
    refine fg_Mo_112 (pc2 := 15) hX (kr_50 hK) d_Mo_read_12 rfl ?_
    refine sx_icmp_ge (tgt := 36) (pc2 := 18) hX d_Mo_read_15 (by decide) rfl (fun hc17 => ?_) (fun hc17 => ?_)
    · replace h := sx_t h hc17
      refine sx_aload_n (pc2 := 37) hX 0 d_Mo_read_36 rfl rfl rfl ?_
      refine sx_iconst (v := 0) (pc2 := 38) hX d_Mo_read_37 (by decide) rfl ?_
      refine fp_Mo_106 (pc2 := 41) hX (kr_50 hK) d_Mo_read_38 rfl ?_
      refine sx_nm (fun σ18 e18 => ?_)
      replace h := h σ18 e18
      refine sx_aload_n (pc2 := 42) hX 0 d_Mo_read_41 rfl rfl rfl ?_
      refine cl_Mo_167 (pc2 := 45) hX hK h  ⟨Nat.le_of_ble_eq_true rfl, Nat.le_of_ble_eq_true rfl⟩ (Nat.le_of_ble_eq_true rfl) d_Mo_read_42 rfl (fun σ19 τ19 h => ?_)
      refine sx_aload_n (pc2 := 46) hX 0 d_Mo_read_45 rfl rfl rfl ?_
      refine sx_iconst (v := 0) (pc2 := 47) hX d_Mo_read_46 (by decide) rfl ?_
      refine fp_Mo_146 (pc2 := 50) hX (kr_50 hK) d_Mo_read_47 rfl ?_
      refine sx_nm (fun σ20 e20 => ?_)
      replace h := h σ20 e20
      refine sx_aload_n (pc2 := 51) hX 0 d_Mo_read_50 rfl rfl rfl ?_
      refine sx_iconst (v := 0) (pc2 := 52) hX d_Mo_read_51 (by decide) rfl ?_
      refine fp_Mo_143 (pc2 := 55) hX (kr_50 hK) d_Mo_read_52 rfl ?_
      refine sx_nm (fun σ21 e21 => ?_)
      replace h := h σ21 e21
      refine sx_aload_n (pc2 := 56) hX 0 d_Mo_read_55 rfl rfl rfl ?_
      refine sx_iconst (v := 0) (pc2 := 57) hX d_Mo_read_56 (by decide) rfl ?_
      refine fp_Mo_152 (pc2 := 60) hX (kr_50 hK) d_Mo_read_57 rfl ?_
      refine sx_nm (fun σ22 e22 => ?_)
      replace h := h σ22 e22
      refine sx_aload_n (pc2 := 61) hX 0 d_Mo_read_60 rfl rfl rfl ?_
      refine sx_iconst (v := 1) (pc2 := 62) hX d_Mo_read_61 (by decide) rfl ?_
      refine sx_aload_n (pc2 := 63) hX 0 d_Mo_read_62 rfl rfl rfl ?_
      refine fg_Mo_170 (pc2 := 66) hX (kr_50 hK) d_Mo_read_63 rfl ?_
      refine sx_isub (pc2 := 67) hX d_Mo_read_66 rfl ?_
      refine fp_Mo_173 (pc2 := 70) hX (kr_50 hK) d_Mo_read_67 rfl ?_
      refine sx_nm (fun σ23 e23 => ?_)
      replace h := h σ23 e23
      refine sx_aload_n (pc2 := 71) hX 0 d_Mo_read_70 rfl rfl rfl ?_
      refine sx_aload_n (pc2 := 72) hX 0 d_Mo_read_71 rfl rfl rfl ?_
      refine fg_Mo_173 (pc2 := 75) hX (kr_50 hK) d_Mo_read_72 rfl ?_
      refine cl_Mo_96 (pc2 := 78) hX hK h  ⟨Nat.le_of_ble_eq_true rfl, Nat.le_of_ble_eq_true rfl⟩ (Nat.le_of_ble_eq_true rfl) d_Mo_read_75 rfl (fun σ24 τ24 h => ?_)
      refine sx_sub [(0, .ref (K.2.2.1 50 0 0))] [0] rfl ?_
      obtain ⟨f78, h⟩ := h
      exact g_Mo_read_b78 hX hK hE   f78 _ _ h
    · replace h := sx_f h hc17
      refine sx_aload_n (pc2 := 19) hX 0 d_Mo_read_18 rfl rfl rfl ?_
      refine fg_Mo_17 (pc2 := 22) hX (kr_50 hK) d_Mo_read_19 rfl ?_
      refine sx_iload_n (pc2 := 23) hX 1 d_Mo_read_22 rfl rfl rfl ?_
      refine sx_aload_n (pc2 := 24) hX 0 d_Mo_read_23 rfl rfl rfl ?_
      refine fg_Mo_13 (pc2 := 27) hX (kr_50 hK) d_Mo_read_24 rfl ?_
      refine sx_iload_n (pc2 := 28) hX 1 d_Mo_read_27 rfl rfl rfl ?_
      obtain ⟨hc25, h⟩ := h
      refine sx_bald (pc2 := 29) hX (kr_51 hK) rfl hc25 d_Mo_read_28 rfl ?_
      obtain ⟨hc26, h⟩ := h
      refine sx_bast (pc2 := 30) hX (kr_52 hK) (fun _ => rfl) hc26 d_Mo_read_29 rfl ?_
      refine sx_nm (fun σ27 e27 => ?_)
      replace h := h σ27 e27
      refine sx_iinc (pc2 := 33) hX 1 _ [(0, .ref (K.2.2.1 50 0 0)), (1, .int (v1 + 1))] [1, 0] d_Mo_read_30 rfl (v1 + 1) rfl (by decide) rfl rfl rfl ?_
      refine sx_goto (tgt := 10) hX d_Mo_read_33 (by decide) ?_
      exact ih (v1 + 1) _ _ h
set_option maxRecDepth 100000 in
set_option maxHeartbeats 4000000 in
theorem c_Mo_read {l : Launch} {K : sx_K} (hK : kx_F K)  (σ : sx_M) (τ : sx_L) (Q : Int32 → sx_M → sx_L → Prop)  (h : wp_Mo_read σ τ Q) : Met l y_Mo_read (sx_wd y_Mo_read prog_13_method_22_code 2 (some .int)) rm_Mo_read (sx_Pc K [.ref (K.2.2.1 50 0 0)] σ τ) (sx_Qi K Q) 0 0 (sx_A K) := by
  refine sx_met (by decide) (Nat.le_of_ble_eq_true rfl) (fun X hX hE => ?_)
  replace hX : sx_C X K prog_13_method_22_code 2 "SensorTreeModel" (some .int) rm_Mo_read l := hX
  show sx_G X K 2 0 [(0, .ref (K.2.2.1 50 0 0))] [] (sx_H K σ τ)
  unfold wp_Mo_read at h
  refine sx_aload_n (pc2 := 1) hX 0 d_Mo_read_0 rfl rfl rfl ?_
  refine sx_aload_n (pc2 := 2) hX 0 d_Mo_read_1 rfl rfl rfl ?_
  refine fg_Mo_106 (pc2 := 5) hX (kr_50 hK) d_Mo_read_2 rfl ?_
  refine fp_Mo_112 (pc2 := 8) hX (kr_50 hK) d_Mo_read_5 rfl ?_
  refine sx_nm (fun σ28 e28 => ?_)
  replace h := h σ28 e28
  refine sx_iconst (v := 0) (pc2 := 9) hX d_Mo_read_8 (by decide) rfl ?_
  refine sx_istore_n (pc2 := 10) hX _ [(0, .ref (K.2.2.1 50 0 0)), (1, .int 0)] [1, 0] d_Mo_read_9 rfl (by decide) rfl rfl rfl ?_
  obtain ⟨f10, h⟩ := h
  exact g_Mo_read_b10 hX hK hE   f10 0 _ _ h
def y_Mo_place : MethodName := ⟨"SensorTreeModel", "place", "()I"⟩
theorem hy_Mo_place : y_Mo_place.cls ≠ "java/lang/invoke/MethodHandle" ∧ y_Mo_place.cls ≠ "java/lang/invoke/VarHandle" ∧ (parseMethodDescriptor y_Mo_place.desc).map (fun d => d.parameters.length) = some 0 := by decide +kernel
theorem d_Mo_place_0 : decode prog_13_method_23_code 0 = .ok (.aload_n 0, 1) := by decide +kernel
theorem d_Mo_place_1 : decode prog_13_method_23_code 1 = .ok (.getfield 37, 3) := by decide +kernel
theorem d_Mo_place_4 : decode prog_13_method_23_code 4 = .ok (.ireturn, 1) := by decide +kernel
def wp_Mo_place  (σ : sx_M) (τ : sx_L) (Q : Int32 → sx_M → sx_L → Prop) : Prop := Q (σ 50 0 0 16) σ τ
abbrev rm_Mo_place : Room := { frames := 0, cells := 0, slots := 0, locals := 0 }
set_option maxRecDepth 100000 in
set_option maxHeartbeats 4000000 in
theorem c_Mo_place {l : Launch} {K : sx_K} (hK : kx_F K)  (σ : sx_M) (τ : sx_L) (Q : Int32 → sx_M → sx_L → Prop)  (h : wp_Mo_place σ τ Q) : Met l y_Mo_place (sx_wd y_Mo_place prog_13_method_23_code 1 (some .int)) rm_Mo_place (sx_Pc K [.ref (K.2.2.1 50 0 0)] σ τ) (sx_Qi K Q) 0 0 (sx_A K) := by
  refine sx_met (by decide) (Nat.le_of_ble_eq_true rfl) (fun X hX hE => ?_)
  replace hX : sx_C X K prog_13_method_23_code 1 "SensorTreeModel" (some .int) rm_Mo_place l := hX
  show sx_G X K 1 0 [(0, .ref (K.2.2.1 50 0 0))] [] (sx_H K σ τ)
  unfold wp_Mo_place at h
  refine sx_aload_n (pc2 := 1) hX 0 d_Mo_place_0 rfl rfl rfl ?_
  refine fg_Mo_37 (pc2 := 4) hX (kr_50 hK) d_Mo_place_1 rfl ?_
  exact sx_iret hX hE h d_Mo_place_4
def y_Mo_in : MethodName := ⟨"SensorTreeModel", "in", "(III)Z"⟩
theorem hy_Mo_in : y_Mo_in.cls ≠ "java/lang/invoke/MethodHandle" ∧ y_Mo_in.cls ≠ "java/lang/invoke/VarHandle" ∧ (parseMethodDescriptor y_Mo_in.desc).map (fun d => d.parameters.length) = some 3 := by decide +kernel
theorem d_Mo_in_0 : decode prog_13_method_32_code 0 = .ok (.iload_n 0, 1) := by decide +kernel
theorem d_Mo_in_1 : decode prog_13_method_32_code 1 = .ok (.iload_n 1, 1) := by decide +kernel
theorem d_Mo_in_2 : decode prog_13_method_32_code 2 = .ok (.if_icmp .lt 12, 3) := by decide +kernel
theorem d_Mo_in_5 : decode prog_13_method_32_code 5 = .ok (.iload_n 0, 1) := by decide +kernel
theorem d_Mo_in_6 : decode prog_13_method_32_code 6 = .ok (.iload_n 2, 1) := by decide +kernel
theorem d_Mo_in_7 : decode prog_13_method_32_code 7 = .ok (.if_icmp .gt 7, 3) := by decide +kernel
theorem d_Mo_in_10 : decode prog_13_method_32_code 10 = .ok (.iconst 1, 1) := by decide +kernel
theorem d_Mo_in_11 : decode prog_13_method_32_code 11 = .ok (.goto 4, 3) := by decide +kernel
theorem d_Mo_in_14 : decode prog_13_method_32_code 14 = .ok (.iconst 0, 1) := by decide +kernel
theorem d_Mo_in_15 : decode prog_13_method_32_code 15 = .ok (.ireturn, 1) := by decide +kernel
def wp_Mo_in_b15   (Q : Int32 → sx_M → sx_L → Prop) (w0 : Int32) (σ : sx_M) (τ : sx_L) : Prop := (w0 = 0 ∨ w0 = 1) ∧ (Q w0 σ τ)
def wp_Mo_in_b14   (Q : Int32 → sx_M → sx_L → Prop)  (σ : sx_M) (τ : sx_L) : Prop := wp_Mo_in_b15 Q 0 σ τ
def wp_Mo_in (x0 : Int32) (x1 : Int32) (x2 : Int32) (σ : sx_M) (τ : sx_L) (Q : Int32 → sx_M → sx_L → Prop) : Prop := if x0 < x1 then (wp_Mo_in_b14 Q σ τ) else (if x2 < x0 then (wp_Mo_in_b14 Q σ τ) else (wp_Mo_in_b15 Q 1 σ τ))
abbrev rm_Mo_in : Room := { frames := 0, cells := 0, slots := 0, locals := 0 }
set_option maxRecDepth 100000 in
set_option maxHeartbeats 4000000 in
theorem g_Mo_in_b15 {l : Launch} {K : sx_K} {X : sx_T}   {Q : Int32 → sx_M → sx_L → Prop} (hX : sx_C X K prog_13_method_32_code 3 "SensorTreeModel" (some .boolean) rm_Mo_in l) (hK : kx_F K) (hE : sx_E X K (sx_Qi K Q))  (w0 : Int32) (σ : sx_M) (τ : sx_L)  (h : wp_Mo_in_b15 Q  w0 σ τ) : sx_G X K 3 15 [] [.int w0] (sx_H K σ τ) := by
  unfold wp_Mo_in_b15 at h
  obtain ⟨hc1, h⟩ := h
  exact sx_zret hX hE hc1 h d_Mo_in_15
set_option maxRecDepth 100000 in
set_option maxHeartbeats 4000000 in
theorem g_Mo_in_b14 {l : Launch} {K : sx_K} {X : sx_T}   {Q : Int32 → sx_M → sx_L → Prop} (hX : sx_C X K prog_13_method_32_code 3 "SensorTreeModel" (some .boolean) rm_Mo_in l) (hK : kx_F K) (hE : sx_E X K (sx_Qi K Q))   (σ : sx_M) (τ : sx_L)  (h : wp_Mo_in_b14 Q  σ τ) : sx_G X K 3 14 [] [] (sx_H K σ τ) := by
  unfold wp_Mo_in_b14 at h
  refine sx_iconst (v := 0) (pc2 := 15) hX d_Mo_in_14 (by decide) rfl ?_
  exact g_Mo_in_b15 hX hK hE   0 _ _ h
set_option maxRecDepth 100000 in
set_option maxHeartbeats 4000000 in
theorem c_Mo_in {l : Launch} {K : sx_K} (hK : kx_F K) (x0 : Int32) (x1 : Int32) (x2 : Int32) (σ : sx_M) (τ : sx_L) (Q : Int32 → sx_M → sx_L → Prop)  (h : wp_Mo_in x0 x1 x2 σ τ Q) : Met l y_Mo_in (sx_wd y_Mo_in prog_13_method_32_code 3 (some .boolean)) rm_Mo_in (sx_Pc K [.int x0, .int x1, .int x2] σ τ) (sx_Qi K Q) 0 0 (sx_A K) := by
  refine sx_met (by decide) (Nat.le_of_ble_eq_true rfl) (fun X hX hE => ?_)
  replace hX : sx_C X K prog_13_method_32_code 3 "SensorTreeModel" (some .boolean) rm_Mo_in l := hX
  show sx_G X K 3 0 [(0, .int x0), (1, .int x1), (2, .int x2)] [] (sx_H K σ τ)
  unfold wp_Mo_in at h
  refine sx_iload_n (pc2 := 1) hX 0 d_Mo_in_0 rfl rfl rfl ?_
  refine sx_iload_n (pc2 := 2) hX 1 d_Mo_in_1 rfl rfl rfl ?_
  refine sx_icmp_lt (tgt := 14) (pc2 := 5) hX d_Mo_in_2 (by decide) rfl (fun hc2 => ?_) (fun hc2 => ?_)
  · replace h := sx_t h hc2
    refine sx_sub [] [] rfl ?_
    exact g_Mo_in_b14 hX hK hE   _ _ h
  · replace h := sx_f h hc2
    refine sx_iload_n (pc2 := 6) hX 0 d_Mo_in_5 rfl rfl rfl ?_
    refine sx_iload_n (pc2 := 7) hX 2 d_Mo_in_6 rfl rfl rfl ?_
    refine sx_icmp_gt (tgt := 14) (pc2 := 10) hX d_Mo_in_7 (by decide) rfl (fun hc3 => ?_) (fun hc3 => ?_)
    · replace h := sx_t h hc3
      refine sx_sub [] [] rfl ?_
      exact g_Mo_in_b14 hX hK hE   _ _ h
    · replace h := sx_f h hc3
      refine sx_iconst (v := 1) (pc2 := 11) hX d_Mo_in_10 (by decide) rfl ?_
      refine sx_goto (tgt := 15) hX d_Mo_in_11 (by decide) ?_
      refine sx_sub [] [] rfl ?_
      exact g_Mo_in_b15 hX hK hE   1 _ _ h
theorem cl_Mo_216 {X : sx_T} {K : sx_K} {cc : ByteArray} {nL : Nat} {ret : Option FieldType} {rm : Room} {l : Launch} {pc pc2 : Nat} {lv : List (Nat × Value)} {st : List Value} {σ : sx_M} {τ : sx_L} {x0 : Int32} {x1 : Int32} {x2 : Int32} {Q : Int32 → sx_M → sx_L → Prop} (hX : sx_C X K cc nL "SensorTreeModel" ret rm l) (hK : kx_F K) (h : wp_Mo_in x0 x1 x2 σ τ Q)  (hR : rm_Mo_in.frames + 1 ≤ rm.frames ∧ 8 + (3 + 11) + rm_Mo_in.locals ≤ rm.locals) (hst : (st.map fun v => v.category).sum ≤ 8) (hd : decode cc pc = .ok (.invokestatic 216, 3)) (hpc : pc + 3 = pc2) (kk : ∀ (r : Int32) (σ2 : sx_M) (τ2 : sx_L), Q r σ2 τ2 → sx_G X K nL pc2 lv (.int r :: st) (sx_H K σ2 τ2)) : sx_G X K nL pc lv (.int x2 :: .int x1 :: .int x0 :: st) (sx_H K σ τ) :=
  sx_callSi (Q := Q) (As := [.int x0, .int x1, .int x2]) hX (c_Mo_in hK x0 x1 x2 σ τ Q  h) lk_463 hy_Mo_in lk_461 lk_364 lk_462 ⟨rfl, rfl⟩ hR hst rfl hd hpc kk
def y_Mo_isPost : MethodName := ⟨"SensorTreeModel", "isPost", "(I)Z"⟩
theorem hy_Mo_isPost : y_Mo_isPost.cls ≠ "java/lang/invoke/MethodHandle" ∧ y_Mo_isPost.cls ≠ "java/lang/invoke/VarHandle" ∧ (parseMethodDescriptor y_Mo_isPost.desc).map (fun d => d.parameters.length) = some 1 := by decide +kernel
theorem d_Mo_isPost_0 : decode prog_13_method_33_code 0 = .ok (.iload_n 1, 1) := by decide +kernel
theorem d_Mo_isPost_1 : decode prog_13_method_33_code 1 = .ok (.iconst 0, 1) := by decide +kernel
theorem d_Mo_isPost_2 : decode prog_13_method_33_code 2 = .ok (.aload_n 0, 1) := by decide +kernel
theorem d_Mo_isPost_3 : decode prog_13_method_33_code 3 = .ok (.getfield 40, 3) := by decide +kernel
theorem d_Mo_isPost_6 : decode prog_13_method_33_code 6 = .ok (.aload_n 0, 1) := by decide +kernel
theorem d_Mo_isPost_7 : decode prog_13_method_33_code 7 = .ok (.getfield 170, 3) := by decide +kernel
theorem d_Mo_isPost_10 : decode prog_13_method_33_code 10 = .ok (.iaload, 1) := by decide +kernel
theorem d_Mo_isPost_11 : decode prog_13_method_33_code 11 = .ok (.iconst 1, 1) := by decide +kernel
theorem d_Mo_isPost_12 : decode prog_13_method_33_code 12 = .ok (.isub, 1) := by decide +kernel
theorem d_Mo_isPost_13 : decode prog_13_method_33_code 13 = .ok (.invokestatic 216, 3) := by decide +kernel
theorem d_Mo_isPost_16 : decode prog_13_method_33_code 16 = .ok (.ireturn, 1) := by decide +kernel
def wp_Mo_isPost (x1 : Int32) (σ : sx_M) (τ : sx_L) (Q : Int32 → sx_M → sx_L → Prop) : Prop := vp_in (σ 50 0 0 17) 2 ∧ (wp_Mo_in x1 (0 : Int32) ((σ 58 0 0 (σ 50 0 0 17).toNatClampNeg) - 1) σ τ (fun r2 σ2 τ2 => (r2 = 0 ∨ r2 = 1) ∧ (Q r2 σ2 τ2)))
abbrev rm_Mo_isPost : Room := { frames := 1, cells := 0, slots := 0, locals := 22 }
set_option maxRecDepth 100000 in
set_option maxHeartbeats 4000000 in
theorem c_Mo_isPost {l : Launch} {K : sx_K} (hK : kx_F K) (x1 : Int32) (σ : sx_M) (τ : sx_L) (Q : Int32 → sx_M → sx_L → Prop)  (h : wp_Mo_isPost x1 σ τ Q) : Met l y_Mo_isPost (sx_wd y_Mo_isPost prog_13_method_33_code 2 (some .boolean)) rm_Mo_isPost (sx_Pc K [.ref (K.2.2.1 50 0 0), .int x1] σ τ) (sx_Qi K Q) 0 0 (sx_A K) := by
  refine sx_met (by decide) (Nat.le_of_ble_eq_true rfl) (fun X hX hE => ?_)
  replace hX : sx_C X K prog_13_method_33_code 2 "SensorTreeModel" (some .boolean) rm_Mo_isPost l := hX
  show sx_G X K 2 0 [(0, .ref (K.2.2.1 50 0 0)), (1, .int x1)] [] (sx_H K σ τ)
  unfold wp_Mo_isPost at h
  refine sx_iload_n (pc2 := 1) hX 1 d_Mo_isPost_0 rfl rfl rfl ?_
  refine sx_iconst (v := 0) (pc2 := 2) hX d_Mo_isPost_1 (by decide) rfl ?_
  refine sx_aload_n (pc2 := 3) hX 0 d_Mo_isPost_2 rfl rfl rfl ?_
  refine fg_Mo_40 (pc2 := 6) hX (kr_50 hK) d_Mo_isPost_3 rfl ?_
  refine sx_aload_n (pc2 := 7) hX 0 d_Mo_isPost_6 rfl rfl rfl ?_
  refine fg_Mo_170 (pc2 := 10) hX (kr_50 hK) d_Mo_isPost_7 rfl ?_
  obtain ⟨hc1, h⟩ := h
  refine sx_iald (pc2 := 11) hX (kr_58 hK) rfl hc1 d_Mo_isPost_10 rfl ?_
  refine sx_iconst (v := 1) (pc2 := 12) hX d_Mo_isPost_11 (by decide) rfl ?_
  refine sx_isub (pc2 := 13) hX d_Mo_isPost_12 rfl ?_
  refine cl_Mo_216 (pc2 := 16) hX hK h  ⟨Nat.le_of_ble_eq_true rfl, Nat.le_of_ble_eq_true rfl⟩ (Nat.le_of_ble_eq_true rfl) d_Mo_isPost_13 rfl (fun r2 σ2 τ2 h => ?_)
  obtain ⟨hc3, h⟩ := h
  exact sx_zret hX hE hc3 h d_Mo_isPost_16
theorem cl_Mo_311 {X : sx_T} {K : sx_K} {cc : ByteArray} {nL : Nat} {ret : Option FieldType} {rm : Room} {l : Launch} {pc pc2 : Nat} {lv : List (Nat × Value)} {st : List Value} {σ : sx_M} {τ : sx_L} {x1 : Int32} {Q : Int32 → sx_M → sx_L → Prop} (hX : sx_C X K cc nL "SensorTreeModel" ret rm l) (hK : kx_F K) (h : wp_Mo_isPost x1 σ τ Q)  (hR : rm_Mo_isPost.frames + 1 ≤ rm.frames ∧ 8 + (2 + 11) + rm_Mo_isPost.locals ≤ rm.locals) (hst : (st.map fun v => v.category).sum ≤ 8) (hd : decode cc pc = .ok (.invokevirtual 311, 3)) (hpc : pc + 3 = pc2) (kk : ∀ (r : Int32) (σ2 : sx_M) (τ2 : sx_L), Q r σ2 τ2 → sx_G X K nL pc2 lv (.int r :: st) (sx_H K σ2 τ2)) : sx_G X K nL pc lv (.int x1 :: .ref (K.2.2.1 50 0 0) :: st) (sx_H K σ τ) :=
  sx_callVi (Q := Q) (As := [.int x1]) hX (c_Mo_isPost hK x1 σ τ Q  h) (kr_50 hK) rfl rfl lk_520 ls_85 hy_Mo_isPost lk_518 lk_364 lk_519 ⟨rfl, rfl⟩ hR hst rfl hd hpc kk
def y_Mo_isLink : MethodName := ⟨"SensorTreeModel", "isLink", "(I)Z"⟩
theorem hy_Mo_isLink : y_Mo_isLink.cls ≠ "java/lang/invoke/MethodHandle" ∧ y_Mo_isLink.cls ≠ "java/lang/invoke/VarHandle" ∧ (parseMethodDescriptor y_Mo_isLink.desc).map (fun d => d.parameters.length) = some 1 := by decide +kernel
theorem d_Mo_isLink_0 : decode prog_13_method_34_code 0 = .ok (.iload_n 1, 1) := by decide +kernel
theorem d_Mo_isLink_1 : decode prog_13_method_34_code 1 = .ok (.iconst 0, 1) := by decide +kernel
theorem d_Mo_isLink_2 : decode prog_13_method_34_code 2 = .ok (.aload_n 0, 1) := by decide +kernel
theorem d_Mo_isLink_3 : decode prog_13_method_34_code 3 = .ok (.getfield 43, 3) := by decide +kernel
theorem d_Mo_isLink_6 : decode prog_13_method_34_code 6 = .ok (.aload_n 0, 1) := by decide +kernel
theorem d_Mo_isLink_7 : decode prog_13_method_34_code 7 = .ok (.getfield 170, 3) := by decide +kernel
theorem d_Mo_isLink_10 : decode prog_13_method_34_code 10 = .ok (.iaload, 1) := by decide +kernel
theorem d_Mo_isLink_11 : decode prog_13_method_34_code 11 = .ok (.iconst 1, 1) := by decide +kernel
theorem d_Mo_isLink_12 : decode prog_13_method_34_code 12 = .ok (.isub, 1) := by decide +kernel
theorem d_Mo_isLink_13 : decode prog_13_method_34_code 13 = .ok (.invokestatic 216, 3) := by decide +kernel
theorem d_Mo_isLink_16 : decode prog_13_method_34_code 16 = .ok (.ireturn, 1) := by decide +kernel
def wp_Mo_isLink (x1 : Int32) (σ : sx_M) (τ : sx_L) (Q : Int32 → sx_M → sx_L → Prop) : Prop := vp_in (σ 50 0 0 17) 2 ∧ (wp_Mo_in x1 (0 : Int32) ((σ 59 0 0 (σ 50 0 0 17).toNatClampNeg) - 1) σ τ (fun r2 σ2 τ2 => (r2 = 0 ∨ r2 = 1) ∧ (Q r2 σ2 τ2)))
abbrev rm_Mo_isLink : Room := { frames := 1, cells := 0, slots := 0, locals := 22 }
set_option maxRecDepth 100000 in
set_option maxHeartbeats 4000000 in
theorem c_Mo_isLink {l : Launch} {K : sx_K} (hK : kx_F K) (x1 : Int32) (σ : sx_M) (τ : sx_L) (Q : Int32 → sx_M → sx_L → Prop)  (h : wp_Mo_isLink x1 σ τ Q) : Met l y_Mo_isLink (sx_wd y_Mo_isLink prog_13_method_34_code 2 (some .boolean)) rm_Mo_isLink (sx_Pc K [.ref (K.2.2.1 50 0 0), .int x1] σ τ) (sx_Qi K Q) 0 0 (sx_A K) := by
  refine sx_met (by decide) (Nat.le_of_ble_eq_true rfl) (fun X hX hE => ?_)
  replace hX : sx_C X K prog_13_method_34_code 2 "SensorTreeModel" (some .boolean) rm_Mo_isLink l := hX
  show sx_G X K 2 0 [(0, .ref (K.2.2.1 50 0 0)), (1, .int x1)] [] (sx_H K σ τ)
  unfold wp_Mo_isLink at h
  refine sx_iload_n (pc2 := 1) hX 1 d_Mo_isLink_0 rfl rfl rfl ?_
  refine sx_iconst (v := 0) (pc2 := 2) hX d_Mo_isLink_1 (by decide) rfl ?_
  refine sx_aload_n (pc2 := 3) hX 0 d_Mo_isLink_2 rfl rfl rfl ?_
  refine fg_Mo_43 (pc2 := 6) hX (kr_50 hK) d_Mo_isLink_3 rfl ?_
  refine sx_aload_n (pc2 := 7) hX 0 d_Mo_isLink_6 rfl rfl rfl ?_
  refine fg_Mo_170 (pc2 := 10) hX (kr_50 hK) d_Mo_isLink_7 rfl ?_
  obtain ⟨hc1, h⟩ := h
  refine sx_iald (pc2 := 11) hX (kr_59 hK) rfl hc1 d_Mo_isLink_10 rfl ?_
  refine sx_iconst (v := 1) (pc2 := 12) hX d_Mo_isLink_11 (by decide) rfl ?_
  refine sx_isub (pc2 := 13) hX d_Mo_isLink_12 rfl ?_
  refine cl_Mo_216 (pc2 := 16) hX hK h  ⟨Nat.le_of_ble_eq_true rfl, Nat.le_of_ble_eq_true rfl⟩ (Nat.le_of_ble_eq_true rfl) d_Mo_isLink_13 rfl (fun r2 σ2 τ2 h => ?_)
  obtain ⟨hc3, h⟩ := h
  exact sx_zret hX hE hc3 h d_Mo_isLink_16
theorem cl_Mo_326 {X : sx_T} {K : sx_K} {cc : ByteArray} {nL : Nat} {ret : Option FieldType} {rm : Room} {l : Launch} {pc pc2 : Nat} {lv : List (Nat × Value)} {st : List Value} {σ : sx_M} {τ : sx_L} {x1 : Int32} {Q : Int32 → sx_M → sx_L → Prop} (hX : sx_C X K cc nL "SensorTreeModel" ret rm l) (hK : kx_F K) (h : wp_Mo_isLink x1 σ τ Q)  (hR : rm_Mo_isLink.frames + 1 ≤ rm.frames ∧ 8 + (2 + 11) + rm_Mo_isLink.locals ≤ rm.locals) (hst : (st.map fun v => v.category).sum ≤ 8) (hd : decode cc pc = .ok (.invokevirtual 326, 3)) (hpc : pc + 3 = pc2) (kk : ∀ (r : Int32) (σ2 : sx_M) (τ2 : sx_L), Q r σ2 τ2 → sx_G X K nL pc2 lv (.int r :: st) (sx_H K σ2 τ2)) : sx_G X K nL pc lv (.int x1 :: .ref (K.2.2.1 50 0 0) :: st) (sx_H K σ τ) :=
  sx_callVi (Q := Q) (As := [.int x1]) hX (c_Mo_isLink hK x1 σ τ Q  h) (kr_50 hK) rfl rfl lk_535 ls_83 hy_Mo_isLink lk_533 lk_364 lk_534 ⟨rfl, rfl⟩ hR hst rfl hd hpc kk
def y_Mo_of : MethodName := ⟨"SensorTreeModel", "of", "(II)I"⟩
theorem hy_Mo_of : y_Mo_of.cls ≠ "java/lang/invoke/MethodHandle" ∧ y_Mo_of.cls ≠ "java/lang/invoke/VarHandle" ∧ (parseMethodDescriptor y_Mo_of.desc).map (fun d => d.parameters.length) = some 2 := by decide +kernel
theorem d_Mo_of_0 : decode prog_13_method_35_code 0 = .ok (.aload_n 0, 1) := by decide +kernel
theorem d_Mo_of_1 : decode prog_13_method_35_code 1 = .ok (.getfield 71, 3) := by decide +kernel
theorem d_Mo_of_4 : decode prog_13_method_35_code 4 = .ok (.bipush 26, 2) := by decide +kernel
theorem d_Mo_of_6 : decode prog_13_method_35_code 6 = .ok (.bipush 10, 2) := by decide +kernel
theorem d_Mo_of_8 : decode prog_13_method_35_code 8 = .ok (.iload_n 1, 1) := by decide +kernel
theorem d_Mo_of_9 : decode prog_13_method_35_code 9 = .ok (.imul, 1) := by decide +kernel
theorem d_Mo_of_10 : decode prog_13_method_35_code 10 = .ok (.iadd, 1) := by decide +kernel
theorem d_Mo_of_11 : decode prog_13_method_35_code 11 = .ok (.iload_n 2, 1) := by decide +kernel
theorem d_Mo_of_12 : decode prog_13_method_35_code 12 = .ok (.iadd, 1) := by decide +kernel
theorem d_Mo_of_13 : decode prog_13_method_35_code 13 = .ok (.iaload, 1) := by decide +kernel
theorem d_Mo_of_14 : decode prog_13_method_35_code 14 = .ok (.ireturn, 1) := by decide +kernel
def wp_Mo_of (x1 : Int32) (x2 : Int32) (σ : sx_M) (τ : sx_L) (Q : Int32 → sx_M → sx_L → Prop) : Prop := vp_in ((26 + (10 * x1)) + x2) 643 ∧ (Q (σ 68 0 0 ((26 + (10 * x1)) + x2).toNatClampNeg) σ τ)
abbrev rm_Mo_of : Room := { frames := 0, cells := 0, slots := 0, locals := 0 }
set_option maxRecDepth 100000 in
set_option maxHeartbeats 4000000 in
theorem c_Mo_of {l : Launch} {K : sx_K} (hK : kx_F K) (x1 : Int32) (x2 : Int32) (σ : sx_M) (τ : sx_L) (Q : Int32 → sx_M → sx_L → Prop)  (h : wp_Mo_of x1 x2 σ τ Q) : Met l y_Mo_of (sx_wd y_Mo_of prog_13_method_35_code 3 (some .int)) rm_Mo_of (sx_Pc K [.ref (K.2.2.1 50 0 0), .int x1, .int x2] σ τ) (sx_Qi K Q) 0 0 (sx_A K) := by
  refine sx_met (by decide) (Nat.le_of_ble_eq_true rfl) (fun X hX hE => ?_)
  replace hX : sx_C X K prog_13_method_35_code 3 "SensorTreeModel" (some .int) rm_Mo_of l := hX
  show sx_G X K 3 0 [(0, .ref (K.2.2.1 50 0 0)), (1, .int x1), (2, .int x2)] [] (sx_H K σ τ)
  unfold wp_Mo_of at h
  refine sx_aload_n (pc2 := 1) hX 0 d_Mo_of_0 rfl rfl rfl ?_
  refine fg_Mo_71 (pc2 := 4) hX (kr_50 hK) d_Mo_of_1 rfl ?_
  refine sx_bipush (v := 26) (pc2 := 6) hX d_Mo_of_4 (by decide) rfl ?_
  refine sx_bipush (v := 10) (pc2 := 8) hX d_Mo_of_6 (by decide) rfl ?_
  refine sx_iload_n (pc2 := 9) hX 1 d_Mo_of_8 rfl rfl rfl ?_
  refine sx_imul (pc2 := 10) hX d_Mo_of_9 rfl ?_
  refine sx_iadd (pc2 := 11) hX d_Mo_of_10 rfl ?_
  refine sx_iload_n (pc2 := 12) hX 2 d_Mo_of_11 rfl rfl rfl ?_
  refine sx_iadd (pc2 := 13) hX d_Mo_of_12 rfl ?_
  obtain ⟨hc1, h⟩ := h
  refine sx_iald (pc2 := 14) hX (kr_68 hK) rfl hc1 d_Mo_of_13 rfl ?_
  exact sx_iret hX hE h d_Mo_of_14
theorem cl_Mo_246 {X : sx_T} {K : sx_K} {cc : ByteArray} {nL : Nat} {ret : Option FieldType} {rm : Room} {l : Launch} {pc pc2 : Nat} {lv : List (Nat × Value)} {st : List Value} {σ : sx_M} {τ : sx_L} {x1 : Int32} {x2 : Int32} {Q : Int32 → sx_M → sx_L → Prop} (hX : sx_C X K cc nL "SensorTreeModel" ret rm l) (hK : kx_F K) (h : wp_Mo_of x1 x2 σ τ Q)  (hR : rm_Mo_of.frames + 1 ≤ rm.frames ∧ 8 + (3 + 11) + rm_Mo_of.locals ≤ rm.locals) (hst : (st.map fun v => v.category).sum ≤ 8) (hd : decode cc pc = .ok (.invokevirtual 246, 3)) (hpc : pc + 3 = pc2) (kk : ∀ (r : Int32) (σ2 : sx_M) (τ2 : sx_L), Q r σ2 τ2 → sx_G X K nL pc2 lv (.int r :: st) (sx_H K σ2 τ2)) : sx_G X K nL pc lv (.int x2 :: .int x1 :: .ref (K.2.2.1 50 0 0) :: st) (sx_H K σ τ) :=
  sx_callVi (Q := Q) (As := [.int x1, .int x2]) hX (c_Mo_of hK x1 x2 σ τ Q  h) (kr_50 hK) rfl rfl lk_466 ls_72 hy_Mo_of lk_464 lk_364 lk_465 ⟨rfl, rfl⟩ hR hst rfl hd hpc kk
def y_Mo_copies : MethodName := ⟨"SensorTreeModel", "copies", "()V"⟩
theorem hy_Mo_copies : y_Mo_copies.cls ≠ "java/lang/invoke/MethodHandle" ∧ y_Mo_copies.cls ≠ "java/lang/invoke/VarHandle" ∧ (parseMethodDescriptor y_Mo_copies.desc).map (fun d => d.parameters.length) = some 0 := by decide +kernel
theorem d_Mo_copies_0 : decode prog_13_method_39_code 0 = .ok (.aload_n 0, 1) := by decide +kernel
theorem d_Mo_copies_1 : decode prog_13_method_39_code 1 = .ok (.getfield 68, 3) := by decide +kernel
theorem d_Mo_copies_4 : decode prog_13_method_39_code 4 = .ok (.iconst 0, 1) := by decide +kernel
theorem d_Mo_copies_5 : decode prog_13_method_39_code 5 = .ok (.aload_n 0, 1) := by decide +kernel
theorem d_Mo_copies_6 : decode prog_13_method_39_code 6 = .ok (.getfield 71, 3) := by decide +kernel
theorem d_Mo_copies_9 : decode prog_13_method_39_code 9 = .ok (.iconst 0, 1) := by decide +kernel
theorem d_Mo_copies_10 : decode prog_13_method_39_code 10 = .ok (.invokestatic 220, 3) := by decide +kernel
theorem d_Mo_copies_13 : decode prog_13_method_39_code 13 = .ok (.aload_n 0, 1) := by decide +kernel
theorem d_Mo_copies_14 : decode prog_13_method_39_code 14 = .ok (.iconst 0, 1) := by decide +kernel
theorem d_Mo_copies_15 : decode prog_13_method_39_code 15 = .ok (.putfield 223, 3) := by decide +kernel
theorem d_Mo_copies_18 : decode prog_13_method_39_code 18 = .ok (.return_, 1) := by decide +kernel
def wp_Mo_copies  (σ : sx_M) (τ : sx_L) (Q : sx_M → sx_L → Prop) : Prop := wp_Mo_lays2_now_row (0 : Int32) (0 : Int32) σ τ (fun σ1 τ1 => ∀ σ2 : sx_M, σ2 = sx_u σ1 50 0 0 31 0 → (Q σ2 τ1))
abbrev rm_Mo_copies : Room := { frames := 1, cells := 0, slots := 0, locals := 25 }
set_option maxRecDepth 100000 in
set_option maxHeartbeats 4000000 in
theorem c_Mo_copies {l : Launch} {K : sx_K} (hK : kx_F K)  (σ : sx_M) (τ : sx_L) (Q : sx_M → sx_L → Prop)  (h : wp_Mo_copies σ τ Q) : Met l y_Mo_copies (sx_wd y_Mo_copies prog_13_method_39_code 1 none) rm_Mo_copies (sx_Pc K [.ref (K.2.2.1 50 0 0)] σ τ) (sx_Qv K Q) 0 0 (sx_A K) := by
  refine sx_met (by decide) (Nat.le_of_ble_eq_true rfl) (fun X hX hE => ?_)
  replace hX : sx_C X K prog_13_method_39_code 1 "SensorTreeModel" none rm_Mo_copies l := hX
  show sx_G X K 1 0 [(0, .ref (K.2.2.1 50 0 0))] [] (sx_H K σ τ)
  unfold wp_Mo_copies at h
  refine sx_aload_n (pc2 := 1) hX 0 d_Mo_copies_0 rfl rfl rfl ?_
  refine fg_Mo_68 (pc2 := 4) hX (kr_50 hK) d_Mo_copies_1 rfl ?_
  refine sx_iconst (v := 0) (pc2 := 5) hX d_Mo_copies_4 (by decide) rfl ?_
  refine sx_aload_n (pc2 := 6) hX 0 d_Mo_copies_5 rfl rfl rfl ?_
  refine fg_Mo_71 (pc2 := 9) hX (kr_50 hK) d_Mo_copies_6 rfl ?_
  refine sx_iconst (v := 0) (pc2 := 10) hX d_Mo_copies_9 (by decide) rfl ?_
  refine cl_Mo_220_now_row (pc2 := 13) hX hK h  ⟨Nat.le_of_ble_eq_true rfl, Nat.le_of_ble_eq_true rfl⟩ (Nat.le_of_ble_eq_true rfl) d_Mo_copies_10 rfl (fun σ1 τ1 h => ?_)
  refine sx_aload_n (pc2 := 14) hX 0 d_Mo_copies_13 rfl rfl rfl ?_
  refine sx_iconst (v := 0) (pc2 := 15) hX d_Mo_copies_14 (by decide) rfl ?_
  refine fp_Mo_223 (pc2 := 18) hX (kr_50 hK) d_Mo_copies_15 rfl ?_
  refine sx_nm (fun σ2 e2 => ?_)
  replace h := h σ2 e2
  exact sx_vret hX hE h d_Mo_copies_18
theorem cl_Mo_317 {X : sx_T} {K : sx_K} {cc : ByteArray} {nL : Nat} {ret : Option FieldType} {rm : Room} {l : Launch} {pc pc2 : Nat} {lv : List (Nat × Value)} {st : List Value} {σ : sx_M} {τ : sx_L}  {Q : sx_M → sx_L → Prop} (hX : sx_C X K cc nL "SensorTreeModel" ret rm l) (hK : kx_F K) (h : wp_Mo_copies  σ τ Q)  (hR : rm_Mo_copies.frames + 1 ≤ rm.frames ∧ 8 + (1 + 11) + rm_Mo_copies.locals ≤ rm.locals) (hst : (st.map fun v => v.category).sum ≤ 8) (hd : decode cc pc = .ok (.invokevirtual 317, 3)) (hpc : pc + 3 = pc2) (kk : ∀ (σ2 : sx_M) (τ2 : sx_L), Q σ2 τ2 → sx_G X K nL pc2 lv (st) (sx_H K σ2 τ2)) : sx_G X K nL pc lv (.ref (K.2.2.1 50 0 0) :: st) (sx_H K σ τ) :=
  sx_callVv (Q := Q) (As := []) hX (c_Mo_copies hK  σ τ Q  h) (kr_50 hK) rfl rfl lk_523 ls_63 hy_Mo_copies lk_521 lk_364 lk_522 ⟨rfl, rfl⟩ hR hst rfl hd hpc kk
def y_Mo_beginsAnew : MethodName := ⟨"SensorTreeModel", "beginsAnew", "(I)V"⟩
theorem hy_Mo_beginsAnew : y_Mo_beginsAnew.cls ≠ "java/lang/invoke/MethodHandle" ∧ y_Mo_beginsAnew.cls ≠ "java/lang/invoke/VarHandle" ∧ (parseMethodDescriptor y_Mo_beginsAnew.desc).map (fun d => d.parameters.length) = some 1 := by decide +kernel
theorem d_Mo_beginsAnew_0 : decode prog_13_method_45_code 0 = .ok (.aload_n 0, 1) := by decide +kernel
theorem d_Mo_beginsAnew_1 : decode prog_13_method_45_code 1 = .ok (.iload_n 1, 1) := by decide +kernel
theorem d_Mo_beginsAnew_2 : decode prog_13_method_45_code 2 = .ok (.bipush 6, 2) := by decide +kernel
theorem d_Mo_beginsAnew_4 : decode prog_13_method_45_code 4 = .ok (.invokevirtual 246, 3) := by decide +kernel
theorem d_Mo_beginsAnew_7 : decode prog_13_method_45_code 7 = .ok (.aload_n 0, 1) := by decide +kernel
theorem d_Mo_beginsAnew_8 : decode prog_13_method_45_code 8 = .ok (.iconst 0, 1) := by decide +kernel
theorem d_Mo_beginsAnew_9 : decode prog_13_method_45_code 9 = .ok (.invokevirtual 233, 3) := by decide +kernel
theorem d_Mo_beginsAnew_12 : decode prog_13_method_45_code 12 = .ok (.if_icmp .eq 13, 3) := by decide +kernel
theorem d_Mo_beginsAnew_15 : decode prog_13_method_45_code 15 = .ok (.aload_n 0, 1) := by decide +kernel
theorem d_Mo_beginsAnew_16 : decode prog_13_method_45_code 16 = .ok (.iload_n 1, 1) := by decide +kernel
theorem d_Mo_beginsAnew_17 : decode prog_13_method_45_code 17 = .ok (.aload_n 0, 1) := by decide +kernel
theorem d_Mo_beginsAnew_18 : decode prog_13_method_45_code 18 = .ok (.iconst 0, 1) := by decide +kernel
theorem d_Mo_beginsAnew_19 : decode prog_13_method_45_code 19 = .ok (.invokevirtual 233, 3) := by decide +kernel
theorem d_Mo_beginsAnew_22 : decode prog_13_method_45_code 22 = .ok (.invokevirtual 236, 3) := by decide +kernel
theorem d_Mo_beginsAnew_25 : decode prog_13_method_45_code 25 = .ok (.return_, 1) := by decide +kernel
def wp_Mo_beginsAnew_b25   (Q : sx_M → sx_L → Prop)  (σ : sx_M) (τ : sx_L) : Prop := Q σ τ
def wp_Mo_beginsAnew (x1 : Int32) (σ : sx_M) (τ : sx_L) (Q : sx_M → sx_L → Prop) : Prop := wp_Mo_of x1 (6 : Int32) σ τ (fun r1 σ1 τ1 => wp_Mo_setting (0 : Int32) σ1 τ1 (fun r2 σ2 τ2 => if r1 = r2 then (wp_Mo_beginsAnew_b25 Q σ2 τ2) else (wp_Mo_setting (0 : Int32) σ2 τ2 (fun r4 σ4 τ4 => wp_Mo_starts x1 r4 σ4 τ4 (fun σ5 τ5 => wp_Mo_beginsAnew_b25 Q σ5 τ5)))))
abbrev rm_Mo_beginsAnew : Room := { frames := 3, cells := 0, slots := 0, locals := 66 }
set_option maxRecDepth 100000 in
set_option maxHeartbeats 4000000 in
theorem g_Mo_beginsAnew_b25 {l : Launch} {K : sx_K} {X : sx_T}   {Q : sx_M → sx_L → Prop} (hX : sx_C X K prog_13_method_45_code 2 "SensorTreeModel" none rm_Mo_beginsAnew l) (hK : kx_F K) (hE : sx_E X K (sx_Qv K Q))   (σ : sx_M) (τ : sx_L)  (h : wp_Mo_beginsAnew_b25 Q  σ τ) : sx_G X K 2 25 [] [] (sx_H K σ τ) := by
  unfold wp_Mo_beginsAnew_b25 at h
  exact sx_vret hX hE h d_Mo_beginsAnew_25
set_option maxRecDepth 100000 in
set_option maxHeartbeats 4000000 in
theorem c_Mo_beginsAnew {l : Launch} {K : sx_K} (hK : kx_F K) (x1 : Int32) (σ : sx_M) (τ : sx_L) (Q : sx_M → sx_L → Prop)  (h : wp_Mo_beginsAnew x1 σ τ Q) : Met l y_Mo_beginsAnew (sx_wd y_Mo_beginsAnew prog_13_method_45_code 2 none) rm_Mo_beginsAnew (sx_Pc K [.ref (K.2.2.1 50 0 0), .int x1] σ τ) (sx_Qv K Q) 0 0 (sx_A K) := by
  refine sx_met (by decide) (Nat.le_of_ble_eq_true rfl) (fun X hX hE => ?_)
  replace hX : sx_C X K prog_13_method_45_code 2 "SensorTreeModel" none rm_Mo_beginsAnew l := hX
  show sx_G X K 2 0 [(0, .ref (K.2.2.1 50 0 0)), (1, .int x1)] [] (sx_H K σ τ)
  unfold wp_Mo_beginsAnew at h
  refine sx_aload_n (pc2 := 1) hX 0 d_Mo_beginsAnew_0 rfl rfl rfl ?_
  refine sx_iload_n (pc2 := 2) hX 1 d_Mo_beginsAnew_1 rfl rfl rfl ?_
  refine sx_bipush (v := 6) (pc2 := 4) hX d_Mo_beginsAnew_2 (by decide) rfl ?_
  refine cl_Mo_246 (pc2 := 7) hX hK h  ⟨Nat.le_of_ble_eq_true rfl, Nat.le_of_ble_eq_true rfl⟩ (Nat.le_of_ble_eq_true rfl) d_Mo_beginsAnew_4 rfl (fun r1 σ1 τ1 h => ?_)
  refine sx_aload_n (pc2 := 8) hX 0 d_Mo_beginsAnew_7 rfl rfl rfl ?_
  refine sx_iconst (v := 0) (pc2 := 9) hX d_Mo_beginsAnew_8 (by decide) rfl ?_
  refine cl_Mo_233 (pc2 := 12) hX hK h  ⟨Nat.le_of_ble_eq_true rfl, Nat.le_of_ble_eq_true rfl⟩ (Nat.le_of_ble_eq_true rfl) d_Mo_beginsAnew_9 rfl (fun r2 σ2 τ2 h => ?_)
  refine sx_icmp_eq (tgt := 25) (pc2 := 15) hX d_Mo_beginsAnew_12 (by decide) rfl (fun hc3 => ?_) (fun hc3 => ?_)
  · replace h := sx_t h hc3
    refine sx_sub [] [] rfl ?_
    exact g_Mo_beginsAnew_b25 hX hK hE   _ _ h
  · replace h := sx_f h hc3
    refine sx_aload_n (pc2 := 16) hX 0 d_Mo_beginsAnew_15 rfl rfl rfl ?_
    refine sx_iload_n (pc2 := 17) hX 1 d_Mo_beginsAnew_16 rfl rfl rfl ?_
    refine sx_aload_n (pc2 := 18) hX 0 d_Mo_beginsAnew_17 rfl rfl rfl ?_
    refine sx_iconst (v := 0) (pc2 := 19) hX d_Mo_beginsAnew_18 (by decide) rfl ?_
    refine cl_Mo_233 (pc2 := 22) hX hK h  ⟨Nat.le_of_ble_eq_true rfl, Nat.le_of_ble_eq_true rfl⟩ (Nat.le_of_ble_eq_true rfl) d_Mo_beginsAnew_19 rfl (fun r4 σ4 τ4 h => ?_)
    refine cl_Mo_236 (pc2 := 25) hX hK h  ⟨Nat.le_of_ble_eq_true rfl, Nat.le_of_ble_eq_true rfl⟩ (Nat.le_of_ble_eq_true rfl) d_Mo_beginsAnew_22 rfl (fun σ5 τ5 h => ?_)
    refine sx_sub [] [] rfl ?_
    exact g_Mo_beginsAnew_b25 hX hK hE   _ _ h
theorem cl_Mo_274 {X : sx_T} {K : sx_K} {cc : ByteArray} {nL : Nat} {ret : Option FieldType} {rm : Room} {l : Launch} {pc pc2 : Nat} {lv : List (Nat × Value)} {st : List Value} {σ : sx_M} {τ : sx_L} {x1 : Int32} {Q : sx_M → sx_L → Prop} (hX : sx_C X K cc nL "SensorTreeModel" ret rm l) (hK : kx_F K) (h : wp_Mo_beginsAnew x1 σ τ Q)  (hR : rm_Mo_beginsAnew.frames + 1 ≤ rm.frames ∧ 8 + (2 + 11) + rm_Mo_beginsAnew.locals ≤ rm.locals) (hst : (st.map fun v => v.category).sum ≤ 8) (hd : decode cc pc = .ok (.invokevirtual 274, 3)) (hpc : pc + 3 = pc2) (kk : ∀ (σ2 : sx_M) (τ2 : sx_L), Q σ2 τ2 → sx_G X K nL pc2 lv (st) (sx_H K σ2 τ2)) : sx_G X K nL pc lv (.int x1 :: .ref (K.2.2.1 50 0 0) :: st) (sx_H K σ τ) :=
  sx_callVv (Q := Q) (As := [.int x1]) hX (c_Mo_beginsAnew hK x1 σ τ Q  h) (kr_50 hK) rfl rfl lk_493 ls_73 hy_Mo_beginsAnew lk_491 lk_364 lk_492 ⟨rfl, rfl⟩ hR hst rfl hd hpc kk
def y_Mo_isOn : MethodName := ⟨"SensorTreeModel", "isOn", "(I)Z"⟩
theorem hy_Mo_isOn : y_Mo_isOn.cls ≠ "java/lang/invoke/MethodHandle" ∧ y_Mo_isOn.cls ≠ "java/lang/invoke/VarHandle" ∧ (parseMethodDescriptor y_Mo_isOn.desc).map (fun d => d.parameters.length) = some 1 := by decide +kernel
theorem d_Mo_isOn_0 : decode prog_13_method_46_code 0 = .ok (.aload_n 0, 1) := by decide +kernel
theorem d_Mo_isOn_1 : decode prog_13_method_46_code 1 = .ok (.getfield 71, 3) := by decide +kernel
theorem d_Mo_isOn_4 : decode prog_13_method_46_code 4 = .ok (.bipush 9, 2) := by decide +kernel
theorem d_Mo_isOn_6 : decode prog_13_method_46_code 6 = .ok (.iaload, 1) := by decide +kernel
theorem d_Mo_isOn_7 : decode prog_13_method_46_code 7 = .ok (.iload_n 1, 1) := by decide +kernel
theorem d_Mo_isOn_8 : decode prog_13_method_46_code 8 = .ok (.ishr, 1) := by decide +kernel
theorem d_Mo_isOn_9 : decode prog_13_method_46_code 9 = .ok (.iconst 1, 1) := by decide +kernel
theorem d_Mo_isOn_10 : decode prog_13_method_46_code 10 = .ok (.iand, 1) := by decide +kernel
theorem d_Mo_isOn_11 : decode prog_13_method_46_code 11 = .ok (.iconst 1, 1) := by decide +kernel
theorem d_Mo_isOn_12 : decode prog_13_method_46_code 12 = .ok (.if_icmp .ne 7, 3) := by decide +kernel
theorem d_Mo_isOn_15 : decode prog_13_method_46_code 15 = .ok (.iconst 1, 1) := by decide +kernel
theorem d_Mo_isOn_16 : decode prog_13_method_46_code 16 = .ok (.goto 4, 3) := by decide +kernel
theorem d_Mo_isOn_19 : decode prog_13_method_46_code 19 = .ok (.iconst 0, 1) := by decide +kernel
theorem d_Mo_isOn_20 : decode prog_13_method_46_code 20 = .ok (.ireturn, 1) := by decide +kernel
def wp_Mo_isOn_b20   (Q : Int32 → sx_M → sx_L → Prop) (w0 : Int32) (σ : sx_M) (τ : sx_L) : Prop := (w0 = 0 ∨ w0 = 1) ∧ (Q w0 σ τ)
def wp_Mo_isOn (x1 : Int32) (σ : sx_M) (τ : sx_L) (Q : Int32 → sx_M → sx_L → Prop) : Prop := vp_in 9 643 ∧ (if ((σ 68 0 0 (9 : Int32).toNatClampNeg) >>> (x1 &&& 31)) &&& 1 = 1 then (wp_Mo_isOn_b20 Q 1 σ τ) else (wp_Mo_isOn_b20 Q 0 σ τ))
abbrev rm_Mo_isOn : Room := { frames := 0, cells := 0, slots := 0, locals := 0 }
set_option maxRecDepth 100000 in
set_option maxHeartbeats 4000000 in
theorem g_Mo_isOn_b20 {l : Launch} {K : sx_K} {X : sx_T}   {Q : Int32 → sx_M → sx_L → Prop} (hX : sx_C X K prog_13_method_46_code 2 "SensorTreeModel" (some .boolean) rm_Mo_isOn l) (hK : kx_F K) (hE : sx_E X K (sx_Qi K Q))  (w0 : Int32) (σ : sx_M) (τ : sx_L)  (h : wp_Mo_isOn_b20 Q  w0 σ τ) : sx_G X K 2 20 [] [.int w0] (sx_H K σ τ) := by
  unfold wp_Mo_isOn_b20 at h
  obtain ⟨hc1, h⟩ := h
  exact sx_zret hX hE hc1 h d_Mo_isOn_20
set_option maxRecDepth 100000 in
set_option maxHeartbeats 4000000 in
theorem c_Mo_isOn {l : Launch} {K : sx_K} (hK : kx_F K) (x1 : Int32) (σ : sx_M) (τ : sx_L) (Q : Int32 → sx_M → sx_L → Prop)  (h : wp_Mo_isOn x1 σ τ Q) : Met l y_Mo_isOn (sx_wd y_Mo_isOn prog_13_method_46_code 2 (some .boolean)) rm_Mo_isOn (sx_Pc K [.ref (K.2.2.1 50 0 0), .int x1] σ τ) (sx_Qi K Q) 0 0 (sx_A K) := by
  refine sx_met (by decide) (Nat.le_of_ble_eq_true rfl) (fun X hX hE => ?_)
  replace hX : sx_C X K prog_13_method_46_code 2 "SensorTreeModel" (some .boolean) rm_Mo_isOn l := hX
  show sx_G X K 2 0 [(0, .ref (K.2.2.1 50 0 0)), (1, .int x1)] [] (sx_H K σ τ)
  unfold wp_Mo_isOn at h
  refine sx_aload_n (pc2 := 1) hX 0 d_Mo_isOn_0 rfl rfl rfl ?_
  refine fg_Mo_71 (pc2 := 4) hX (kr_50 hK) d_Mo_isOn_1 rfl ?_
  refine sx_bipush (v := 9) (pc2 := 6) hX d_Mo_isOn_4 (by decide) rfl ?_
  obtain ⟨hc2, h⟩ := h
  refine sx_iald (pc2 := 7) hX (kr_68 hK) rfl hc2 d_Mo_isOn_6 rfl ?_
  refine sx_iload_n (pc2 := 8) hX 1 d_Mo_isOn_7 rfl rfl rfl ?_
  refine sx_ishr (pc2 := 9) hX d_Mo_isOn_8 rfl ?_
  refine sx_iconst (v := 1) (pc2 := 10) hX d_Mo_isOn_9 (by decide) rfl ?_
  refine sx_iand (pc2 := 11) hX d_Mo_isOn_10 rfl ?_
  refine sx_iconst (v := 1) (pc2 := 12) hX d_Mo_isOn_11 (by decide) rfl ?_
  refine sx_icmp_ne (tgt := 19) (pc2 := 15) hX d_Mo_isOn_12 (by decide) rfl (fun hc3 => ?_) (fun hc3 => ?_)
  · replace h := sx_f h hc3
    refine sx_iconst (v := 0) (pc2 := 20) hX d_Mo_isOn_19 (by decide) rfl ?_
    refine sx_sub [] [] rfl ?_
    exact g_Mo_isOn_b20 hX hK hE   0 _ _ h
  · replace h := sx_t h hc3
    refine sx_iconst (v := 1) (pc2 := 16) hX d_Mo_isOn_15 (by decide) rfl ?_
    refine sx_goto (tgt := 20) hX d_Mo_isOn_16 (by decide) ?_
    refine sx_sub [] [] rfl ?_
    exact g_Mo_isOn_b20 hX hK hE   1 _ _ h
theorem cl_Mo_252 {X : sx_T} {K : sx_K} {cc : ByteArray} {nL : Nat} {ret : Option FieldType} {rm : Room} {l : Launch} {pc pc2 : Nat} {lv : List (Nat × Value)} {st : List Value} {σ : sx_M} {τ : sx_L} {x1 : Int32} {Q : Int32 → sx_M → sx_L → Prop} (hX : sx_C X K cc nL "SensorTreeModel" ret rm l) (hK : kx_F K) (h : wp_Mo_isOn x1 σ τ Q)  (hR : rm_Mo_isOn.frames + 1 ≤ rm.frames ∧ 8 + (2 + 11) + rm_Mo_isOn.locals ≤ rm.locals) (hst : (st.map fun v => v.category).sum ≤ 8) (hd : decode cc pc = .ok (.invokevirtual 252, 3)) (hpc : pc + 3 = pc2) (kk : ∀ (r : Int32) (σ2 : sx_M) (τ2 : sx_L), Q r σ2 τ2 → sx_G X K nL pc2 lv (.int r :: st) (sx_H K σ2 τ2)) : sx_G X K nL pc lv (.int x1 :: .ref (K.2.2.1 50 0 0) :: st) (sx_H K σ τ) :=
  sx_callVi (Q := Q) (As := [.int x1]) hX (c_Mo_isOn hK x1 σ τ Q  h) (kr_50 hK) rfl rfl lk_472 ls_69 hy_Mo_isOn lk_470 lk_364 lk_471 ⟨rfl, rfl⟩ hR hst rfl hd hpc kk
