def y_Mo_finds : MethodName := ⟨"SensorTreeModel", "finds", "(I)V"⟩
theorem hy_Mo_finds : y_Mo_finds.cls ≠ "java/lang/invoke/MethodHandle" ∧ y_Mo_finds.cls ≠ "java/lang/invoke/VarHandle" ∧ (parseMethodDescriptor y_Mo_finds.desc).map (fun d => d.parameters.length) = some 1 := by decide +kernel
theorem d_Mo_finds_0 : decode prog_13_method_83_code 0 = .ok (.iconst 0, 1) := by decide +kernel
theorem d_Mo_finds_1 : decode prog_13_method_83_code 1 = .ok (.istore_n 2, 1) := by decide +kernel
theorem d_Mo_finds_2 : decode prog_13_method_83_code 2 = .ok (.iload_n 2, 1) := by decide +kernel
theorem d_Mo_finds_3 : decode prog_13_method_83_code 3 = .ok (.bipush 7, 2) := by decide +kernel
theorem d_Mo_finds_5 : decode prog_13_method_83_code 5 = .ok (.if_icmp .ge 18, 3) := by decide +kernel
theorem d_Mo_finds_8 : decode prog_13_method_83_code 8 = .ok (.aload_n 0, 1) := by decide +kernel
theorem d_Mo_finds_9 : decode prog_13_method_83_code 9 = .ok (.getfield 89, 3) := by decide +kernel
theorem d_Mo_finds_12 : decode prog_13_method_83_code 12 = .ok (.iload_n 2, 1) := by decide +kernel
theorem d_Mo_finds_13 : decode prog_13_method_83_code 13 = .ok (.sipush 9999, 3) := by decide +kernel
theorem d_Mo_finds_16 : decode prog_13_method_83_code 16 = .ok (.iastore, 1) := by decide +kernel
theorem d_Mo_finds_17 : decode prog_13_method_83_code 17 = .ok (.iinc 2 1, 3) := by decide +kernel
theorem d_Mo_finds_20 : decode prog_13_method_83_code 20 = .ok (.goto (-18), 3) := by decide +kernel
theorem d_Mo_finds_23 : decode prog_13_method_83_code 23 = .ok (.aload_n 0, 1) := by decide +kernel
theorem d_Mo_finds_24 : decode prog_13_method_83_code 24 = .ok (.getfield 89, 3) := by decide +kernel
theorem d_Mo_finds_27 : decode prog_13_method_83_code 27 = .ok (.iconst 0, 1) := by decide +kernel
theorem d_Mo_finds_28 : decode prog_13_method_83_code 28 = .ok (.bipush 10, 2) := by decide +kernel
theorem d_Mo_finds_30 : decode prog_13_method_83_code 30 = .ok (.iastore, 1) := by decide +kernel
theorem d_Mo_finds_31 : decode prog_13_method_83_code 31 = .ok (.iconst 1, 1) := by decide +kernel
theorem d_Mo_finds_32 : decode prog_13_method_83_code 32 = .ok (.istore_n 2, 1) := by decide +kernel
theorem d_Mo_finds_33 : decode prog_13_method_83_code 33 = .ok (.iload_n 2, 1) := by decide +kernel
theorem d_Mo_finds_34 : decode prog_13_method_83_code 34 = .ok (.ifCond .eq 191, 3) := by decide +kernel
theorem d_Mo_finds_37 : decode prog_13_method_83_code 37 = .ok (.iconst 0, 1) := by decide +kernel
theorem d_Mo_finds_38 : decode prog_13_method_83_code 38 = .ok (.istore_n 2, 1) := by decide +kernel
theorem d_Mo_finds_39 : decode prog_13_method_83_code 39 = .ok (.iconst 0, 1) := by decide +kernel
theorem d_Mo_finds_40 : decode prog_13_method_83_code 40 = .ok (.istore_n 3, 1) := by decide +kernel
theorem d_Mo_finds_41 : decode prog_13_method_83_code 41 = .ok (.iload_n 3, 1) := by decide +kernel
theorem d_Mo_finds_42 : decode prog_13_method_83_code 42 = .ok (.aload_n 0, 1) := by decide +kernel
theorem d_Mo_finds_43 : decode prog_13_method_83_code 43 = .ok (.getfield 43, 3) := by decide +kernel
theorem d_Mo_finds_46 : decode prog_13_method_83_code 46 = .ok (.aload_n 0, 1) := by decide +kernel
theorem d_Mo_finds_47 : decode prog_13_method_83_code 47 = .ok (.getfield 170, 3) := by decide +kernel
theorem d_Mo_finds_50 : decode prog_13_method_83_code 50 = .ok (.iaload, 1) := by decide +kernel
theorem d_Mo_finds_51 : decode prog_13_method_83_code 51 = .ok (.if_icmp .ge 171, 3) := by decide +kernel
theorem d_Mo_finds_54 : decode prog_13_method_83_code 54 = .ok (.aload_n 0, 1) := by decide +kernel
theorem d_Mo_finds_55 : decode prog_13_method_83_code 55 = .ok (.getfield 49, 3) := by decide +kernel
theorem d_Mo_finds_58 : decode prog_13_method_83_code 58 = .ok (.bipush 16, 2) := by decide +kernel
theorem d_Mo_finds_60 : decode prog_13_method_83_code 60 = .ok (.aload_n 0, 1) := by decide +kernel
theorem d_Mo_finds_61 : decode prog_13_method_83_code 61 = .ok (.getfield 170, 3) := by decide +kernel
theorem d_Mo_finds_64 : decode prog_13_method_83_code 64 = .ok (.imul, 1) := by decide +kernel
theorem d_Mo_finds_65 : decode prog_13_method_83_code 65 = .ok (.iload_n 3, 1) := by decide +kernel
theorem d_Mo_finds_66 : decode prog_13_method_83_code 66 = .ok (.iadd, 1) := by decide +kernel
theorem d_Mo_finds_67 : decode prog_13_method_83_code 67 = .ok (.iaload, 1) := by decide +kernel
theorem d_Mo_finds_68 : decode prog_13_method_83_code 68 = .ok (.istore 4, 2) := by decide +kernel
theorem d_Mo_finds_70 : decode prog_13_method_83_code 70 = .ok (.aload_n 0, 1) := by decide +kernel
theorem d_Mo_finds_71 : decode prog_13_method_83_code 71 = .ok (.getfield 52, 3) := by decide +kernel
theorem d_Mo_finds_74 : decode prog_13_method_83_code 74 = .ok (.bipush 16, 2) := by decide +kernel
theorem d_Mo_finds_76 : decode prog_13_method_83_code 76 = .ok (.aload_n 0, 1) := by decide +kernel
theorem d_Mo_finds_77 : decode prog_13_method_83_code 77 = .ok (.getfield 170, 3) := by decide +kernel
theorem d_Mo_finds_80 : decode prog_13_method_83_code 80 = .ok (.imul, 1) := by decide +kernel
theorem d_Mo_finds_81 : decode prog_13_method_83_code 81 = .ok (.iload_n 3, 1) := by decide +kernel
theorem d_Mo_finds_82 : decode prog_13_method_83_code 82 = .ok (.iadd, 1) := by decide +kernel
theorem d_Mo_finds_83 : decode prog_13_method_83_code 83 = .ok (.iaload, 1) := by decide +kernel
theorem d_Mo_finds_84 : decode prog_13_method_83_code 84 = .ok (.istore 5, 2) := by decide +kernel
theorem d_Mo_finds_86 : decode prog_13_method_83_code 86 = .ok (.iload_n 3, 1) := by decide +kernel
theorem d_Mo_finds_87 : decode prog_13_method_83_code 87 = .ok (.iload_n 1, 1) := by decide +kernel
theorem d_Mo_finds_88 : decode prog_13_method_83_code 88 = .ok (.if_icmp .eq 128, 3) := by decide +kernel
theorem d_Mo_finds_91 : decode prog_13_method_83_code 91 = .ok (.aload_n 0, 1) := by decide +kernel
theorem d_Mo_finds_92 : decode prog_13_method_83_code 92 = .ok (.iload 4, 2) := by decide +kernel
theorem d_Mo_finds_94 : decode prog_13_method_83_code 94 = .ok (.iload 5, 2) := by decide +kernel
theorem d_Mo_finds_96 : decode prog_13_method_83_code 96 = .ok (.invokevirtual 258, 3) := by decide +kernel
theorem d_Mo_finds_99 : decode prog_13_method_83_code 99 = .ok (.ifCond .ne 6, 3) := by decide +kernel
theorem d_Mo_finds_102 : decode prog_13_method_83_code 102 = .ok (.goto 114, 3) := by decide +kernel
theorem d_Mo_finds_105 : decode prog_13_method_83_code 105 = .ok (.aload_n 0, 1) := by decide +kernel
theorem d_Mo_finds_106 : decode prog_13_method_83_code 106 = .ok (.iload_n 3, 1) := by decide +kernel
theorem d_Mo_finds_107 : decode prog_13_method_83_code 107 = .ok (.invokevirtual 255, 3) := by decide +kernel
theorem d_Mo_finds_110 : decode prog_13_method_83_code 110 = .ok (.istore 6, 2) := by decide +kernel
theorem d_Mo_finds_112 : decode prog_13_method_83_code 112 = .ok (.aload_n 0, 1) := by decide +kernel
theorem d_Mo_finds_113 : decode prog_13_method_83_code 113 = .ok (.getfield 89, 3) := by decide +kernel
theorem d_Mo_finds_116 : decode prog_13_method_83_code 116 = .ok (.iload 4, 2) := by decide +kernel
theorem d_Mo_finds_118 : decode prog_13_method_83_code 118 = .ok (.iaload, 1) := by decide +kernel
theorem d_Mo_finds_119 : decode prog_13_method_83_code 119 = .ok (.sipush 9999, 3) := by decide +kernel
theorem d_Mo_finds_122 : decode prog_13_method_83_code 122 = .ok (.if_icmp .ge 42, 3) := by decide +kernel
theorem d_Mo_finds_125 : decode prog_13_method_83_code 125 = .ok (.aload_n 0, 1) := by decide +kernel
theorem d_Mo_finds_126 : decode prog_13_method_83_code 126 = .ok (.getfield 89, 3) := by decide +kernel
theorem d_Mo_finds_129 : decode prog_13_method_83_code 129 = .ok (.iload 4, 2) := by decide +kernel
theorem d_Mo_finds_131 : decode prog_13_method_83_code 131 = .ok (.iaload, 1) := by decide +kernel
theorem d_Mo_finds_132 : decode prog_13_method_83_code 132 = .ok (.iload 6, 2) := by decide +kernel
theorem d_Mo_finds_134 : decode prog_13_method_83_code 134 = .ok (.iadd, 1) := by decide +kernel
theorem d_Mo_finds_135 : decode prog_13_method_83_code 135 = .ok (.aload_n 0, 1) := by decide +kernel
theorem d_Mo_finds_136 : decode prog_13_method_83_code 136 = .ok (.getfield 89, 3) := by decide +kernel
theorem d_Mo_finds_139 : decode prog_13_method_83_code 139 = .ok (.iload 5, 2) := by decide +kernel
theorem d_Mo_finds_141 : decode prog_13_method_83_code 141 = .ok (.iaload, 1) := by decide +kernel
theorem d_Mo_finds_142 : decode prog_13_method_83_code 142 = .ok (.if_icmp .ge 22, 3) := by decide +kernel
theorem d_Mo_finds_145 : decode prog_13_method_83_code 145 = .ok (.aload_n 0, 1) := by decide +kernel
theorem d_Mo_finds_146 : decode prog_13_method_83_code 146 = .ok (.getfield 89, 3) := by decide +kernel
theorem d_Mo_finds_149 : decode prog_13_method_83_code 149 = .ok (.iload 5, 2) := by decide +kernel
theorem d_Mo_finds_151 : decode prog_13_method_83_code 151 = .ok (.aload_n 0, 1) := by decide +kernel
theorem d_Mo_finds_152 : decode prog_13_method_83_code 152 = .ok (.getfield 89, 3) := by decide +kernel
theorem d_Mo_finds_155 : decode prog_13_method_83_code 155 = .ok (.iload 4, 2) := by decide +kernel
theorem d_Mo_finds_157 : decode prog_13_method_83_code 157 = .ok (.iaload, 1) := by decide +kernel
theorem d_Mo_finds_158 : decode prog_13_method_83_code 158 = .ok (.iload 6, 2) := by decide +kernel
theorem d_Mo_finds_160 : decode prog_13_method_83_code 160 = .ok (.iadd, 1) := by decide +kernel
theorem d_Mo_finds_161 : decode prog_13_method_83_code 161 = .ok (.iastore, 1) := by decide +kernel
theorem d_Mo_finds_162 : decode prog_13_method_83_code 162 = .ok (.iconst 1, 1) := by decide +kernel
theorem d_Mo_finds_163 : decode prog_13_method_83_code 163 = .ok (.istore_n 2, 1) := by decide +kernel
theorem d_Mo_finds_164 : decode prog_13_method_83_code 164 = .ok (.aload_n 0, 1) := by decide +kernel
theorem d_Mo_finds_165 : decode prog_13_method_83_code 165 = .ok (.getfield 89, 3) := by decide +kernel
theorem d_Mo_finds_168 : decode prog_13_method_83_code 168 = .ok (.iload 5, 2) := by decide +kernel
theorem d_Mo_finds_170 : decode prog_13_method_83_code 170 = .ok (.iaload, 1) := by decide +kernel
theorem d_Mo_finds_171 : decode prog_13_method_83_code 171 = .ok (.sipush 9999, 3) := by decide +kernel
theorem d_Mo_finds_174 : decode prog_13_method_83_code 174 = .ok (.if_icmp .ge 42, 3) := by decide +kernel
theorem d_Mo_finds_177 : decode prog_13_method_83_code 177 = .ok (.aload_n 0, 1) := by decide +kernel
theorem d_Mo_finds_178 : decode prog_13_method_83_code 178 = .ok (.getfield 89, 3) := by decide +kernel
theorem d_Mo_finds_181 : decode prog_13_method_83_code 181 = .ok (.iload 5, 2) := by decide +kernel
theorem d_Mo_finds_183 : decode prog_13_method_83_code 183 = .ok (.iaload, 1) := by decide +kernel
theorem d_Mo_finds_184 : decode prog_13_method_83_code 184 = .ok (.iload 6, 2) := by decide +kernel
theorem d_Mo_finds_186 : decode prog_13_method_83_code 186 = .ok (.iadd, 1) := by decide +kernel
theorem d_Mo_finds_187 : decode prog_13_method_83_code 187 = .ok (.aload_n 0, 1) := by decide +kernel
theorem d_Mo_finds_188 : decode prog_13_method_83_code 188 = .ok (.getfield 89, 3) := by decide +kernel
theorem d_Mo_finds_191 : decode prog_13_method_83_code 191 = .ok (.iload 4, 2) := by decide +kernel
theorem d_Mo_finds_193 : decode prog_13_method_83_code 193 = .ok (.iaload, 1) := by decide +kernel
theorem d_Mo_finds_194 : decode prog_13_method_83_code 194 = .ok (.if_icmp .ge 22, 3) := by decide +kernel
theorem d_Mo_finds_197 : decode prog_13_method_83_code 197 = .ok (.aload_n 0, 1) := by decide +kernel
theorem d_Mo_finds_198 : decode prog_13_method_83_code 198 = .ok (.getfield 89, 3) := by decide +kernel
theorem d_Mo_finds_201 : decode prog_13_method_83_code 201 = .ok (.iload 4, 2) := by decide +kernel
theorem d_Mo_finds_203 : decode prog_13_method_83_code 203 = .ok (.aload_n 0, 1) := by decide +kernel
theorem d_Mo_finds_204 : decode prog_13_method_83_code 204 = .ok (.getfield 89, 3) := by decide +kernel
theorem d_Mo_finds_207 : decode prog_13_method_83_code 207 = .ok (.iload 5, 2) := by decide +kernel
theorem d_Mo_finds_209 : decode prog_13_method_83_code 209 = .ok (.iaload, 1) := by decide +kernel
theorem d_Mo_finds_210 : decode prog_13_method_83_code 210 = .ok (.iload 6, 2) := by decide +kernel
theorem d_Mo_finds_212 : decode prog_13_method_83_code 212 = .ok (.iadd, 1) := by decide +kernel
theorem d_Mo_finds_213 : decode prog_13_method_83_code 213 = .ok (.iastore, 1) := by decide +kernel
theorem d_Mo_finds_214 : decode prog_13_method_83_code 214 = .ok (.iconst 1, 1) := by decide +kernel
theorem d_Mo_finds_215 : decode prog_13_method_83_code 215 = .ok (.istore_n 2, 1) := by decide +kernel
theorem d_Mo_finds_216 : decode prog_13_method_83_code 216 = .ok (.iinc 3 1, 3) := by decide +kernel
theorem d_Mo_finds_219 : decode prog_13_method_83_code 219 = .ok (.goto (-178), 3) := by decide +kernel
theorem d_Mo_finds_222 : decode prog_13_method_83_code 222 = .ok (.goto (-189), 3) := by decide +kernel
theorem d_Mo_finds_225 : decode prog_13_method_83_code 225 = .ok (.return_, 1) := by decide +kernel
def wp_Mo_finds_b216  (k33 : Int32 → Int32 → sx_M → sx_L → Prop) (k41 : Int32 → Int32 → Int32 → sx_M → sx_L → Prop) (Q : sx_M → sx_L → Prop) (v1 : Int32) (v2 : Int32) (v3 : Int32) (σ : sx_M) (τ : sx_L) : Prop := k41 v1 v2 (v3 + 1) σ τ
def wp_Mo_finds_b164  (k33 : Int32 → Int32 → sx_M → sx_L → Prop) (k41 : Int32 → Int32 → Int32 → sx_M → sx_L → Prop) (Q : sx_M → sx_L → Prop) (v1 : Int32) (v2 : Int32) (v3 : Int32) (v4 : Int32) (v5 : Int32) (v6 : Int32) (σ : sx_M) (τ : sx_L) : Prop := vp_in v5 7 ∧ (if 9999 ≤ σ 74 0 0 v5.toNatClampNeg then (wp_Mo_finds_b216 k33 k41 Q v1 v2 v3 σ τ) else (vp_in v5 7 ∧ (vp_in v4 7 ∧ (if σ 74 0 0 v4.toNatClampNeg ≤ (σ 74 0 0 v5.toNatClampNeg) + v6 then (wp_Mo_finds_b216 k33 k41 Q v1 v2 v3 σ τ) else (vp_in v5 7 ∧ (vp_in v4 7 ∧ (∀ σ8 : sx_M, σ8 = sx_u σ 74 0 0 v4.toNatClampNeg ((σ 74 0 0 v5.toNatClampNeg) + v6) → (wp_Mo_finds_b216 k33 k41 Q v1 1 v3 σ8 τ))))))))
def wp_Mo_finds_b41  (k33 : Int32 → Int32 → sx_M → sx_L → Prop) (Q : sx_M → sx_L → Prop) : Nat → Int32 → Int32 → Int32 → sx_M → sx_L → Prop
  | 0, _, _, _, _, _ => False
  | f + 1, v1, v2, v3, σ, τ => vp_in (σ 50 0 0 17) 2 ∧ (if σ 59 0 0 (σ 50 0 0 17).toNatClampNeg ≤ v3 then (k33 v1 v2 σ τ) else (vp_in ((16 * (σ 50 0 0 17)) + v3) 32 ∧ (vp_in ((16 * (σ 50 0 0 17)) + v3) 32 ∧ (if v3 = v1 then (wp_Mo_finds_b216 k33 (wp_Mo_finds_b41 k33 Q f) Q v1 v2 v3 σ τ) else (wp_Mo_areNear (σ 61 0 0 ((16 * (σ 50 0 0 17)) + v3).toNatClampNeg) (σ 62 0 0 ((16 * (σ 50 0 0 17)) + v3).toNatClampNeg) σ τ (fun r14 σ14 τ14 => if r14 = 0 then (wp_Mo_finds_b216 k33 (wp_Mo_finds_b41 k33 Q f) Q v1 v2 v3 σ14 τ14) else (wp_Mo_stepOf v3 σ14 τ14 (fun r16 σ16 τ16 => vp_in (σ 61 0 0 ((16 * (σ 50 0 0 17)) + v3).toNatClampNeg) 7 ∧ (if 9999 ≤ σ16 74 0 0 (σ 61 0 0 ((16 * (σ 50 0 0 17)) + v3).toNatClampNeg).toNatClampNeg then (wp_Mo_finds_b164 k33 (wp_Mo_finds_b41 k33 Q f) Q v1 v2 v3 (σ 61 0 0 ((16 * (σ 50 0 0 17)) + v3).toNatClampNeg) (σ 62 0 0 ((16 * (σ 50 0 0 17)) + v3).toNatClampNeg) r16 σ16 τ16) else (vp_in (σ 61 0 0 ((16 * (σ 50 0 0 17)) + v3).toNatClampNeg) 7 ∧ (vp_in (σ 62 0 0 ((16 * (σ 50 0 0 17)) + v3).toNatClampNeg) 7 ∧ (if σ16 74 0 0 (σ 62 0 0 ((16 * (σ 50 0 0 17)) + v3).toNatClampNeg).toNatClampNeg ≤ (σ16 74 0 0 (σ 61 0 0 ((16 * (σ 50 0 0 17)) + v3).toNatClampNeg).toNatClampNeg) + r16 then (wp_Mo_finds_b164 k33 (wp_Mo_finds_b41 k33 Q f) Q v1 v2 v3 (σ 61 0 0 ((16 * (σ 50 0 0 17)) + v3).toNatClampNeg) (σ 62 0 0 ((16 * (σ 50 0 0 17)) + v3).toNatClampNeg) r16 σ16 τ16) else (vp_in (σ 61 0 0 ((16 * (σ 50 0 0 17)) + v3).toNatClampNeg) 7 ∧ (vp_in (σ 62 0 0 ((16 * (σ 50 0 0 17)) + v3).toNatClampNeg) 7 ∧ (∀ σ24 : sx_M, σ24 = sx_u σ16 74 0 0 (σ 62 0 0 ((16 * (σ 50 0 0 17)) + v3).toNatClampNeg).toNatClampNeg ((σ16 74 0 0 (σ 61 0 0 ((16 * (σ 50 0 0 17)) + v3).toNatClampNeg).toNatClampNeg) + r16) → (wp_Mo_finds_b164 k33 (wp_Mo_finds_b41 k33 Q f) Q v1 1 v3 (σ 61 0 0 ((16 * (σ 50 0 0 17)) + v3).toNatClampNeg) (σ 62 0 0 ((16 * (σ 50 0 0 17)) + v3).toNatClampNeg) r16 σ24 τ16))))))))))))))))
def wp_Mo_finds_b33   (Q : sx_M → sx_L → Prop) : Nat → Int32 → Int32 → sx_M → sx_L → Prop
  | 0, _, _, _, _ => False
  | f + 1, v1, v2, σ, τ => if v2 = 0 then (Q σ τ) else (∃ f41, wp_Mo_finds_b41 (wp_Mo_finds_b33 Q f) Q f41 v1 0 0 σ τ)
def wp_Mo_finds_b2   (Q : sx_M → sx_L → Prop) : Nat → Int32 → Int32 → sx_M → sx_L → Prop
  | 0, _, _, _, _ => False
  | f + 1, v1, v2, σ, τ => if 7 ≤ v2 then (vp_in 0 7 ∧ (∀ σ28 : sx_M, σ28 = sx_u σ 74 0 0 (0 : Int32).toNatClampNeg 10 → (∃ f33, wp_Mo_finds_b33 Q f33 v1 1 σ28 τ))) else (vp_in v2 7 ∧ (∀ σ30 : sx_M, σ30 = sx_u σ 74 0 0 v2.toNatClampNeg 9999 → (wp_Mo_finds_b2 Q f v1 (v2 + 1) σ30 τ)))
def wp_Mo_finds (x1 : Int32) (σ : sx_M) (τ : sx_L) (Q : sx_M → sx_L → Prop) : Prop := ∃ f2, wp_Mo_finds_b2 Q f2 x1 0 σ τ
abbrev rm_Mo_finds : Room := { frames := 2, cells := 0, slots := 0, locals := 44 }
set_option maxRecDepth 100000 in
set_option maxHeartbeats 4000000 in
theorem g_Mo_finds_b216 {l : Launch} {K : sx_K} {X : sx_T}  {k33 : Int32 → Int32 → sx_M → sx_L → Prop} {k41 : Int32 → Int32 → Int32 → sx_M → sx_L → Prop} {Q : sx_M → sx_L → Prop} (hX : sx_C X K prog_13_method_83_code 7 "SensorTreeModel" none rm_Mo_finds l) (hK : kx_F K) (hE : sx_E X K (sx_Qv K Q))  (hk33 : ∀ (v1 : Int32) (v2 : Int32) (σ : sx_M) (τ : sx_L) , k33 v1 v2 σ τ → sx_G X K 7 33 [(0, .ref (K.2.2.1 50 0 0)), (1, .int v1), (2, .int v2)] [] (sx_H K σ τ)) (hk41 : ∀ (v1 : Int32) (v2 : Int32) (v3 : Int32) (σ : sx_M) (τ : sx_L) , k41 v1 v2 v3 σ τ → sx_G X K 7 41 [(0, .ref (K.2.2.1 50 0 0)), (1, .int v1), (2, .int v2), (3, .int v3)] [] (sx_H K σ τ)) (v1 : Int32) (v2 : Int32) (v3 : Int32) (σ : sx_M) (τ : sx_L)  (h : wp_Mo_finds_b216 k33 k41 Q  v1 v2 v3 σ τ) : sx_G X K 7 216 [(0, .ref (K.2.2.1 50 0 0)), (1, .int v1), (2, .int v2), (3, .int v3)] [] (sx_H K σ τ) := by
  unfold wp_Mo_finds_b216 at h
  refine sx_iinc (pc2 := 219) hX 3 _ [(0, .ref (K.2.2.1 50 0 0)), (1, .int v1), (2, .int v2), (3, .int (v3 + 1))] [1, 2, 3, 0] d_Mo_finds_216 rfl (v3 + 1) rfl (by decide) rfl rfl rfl ?_
  refine sx_goto (tgt := 41) hX d_Mo_finds_219 (by decide) ?_
  exact hk41 v1 v2 (v3 + 1) _ _ h
set_option maxRecDepth 100000 in
set_option maxHeartbeats 4000000 in
theorem g_Mo_finds_b164 {l : Launch} {K : sx_K} {X : sx_T}  {k33 : Int32 → Int32 → sx_M → sx_L → Prop} {k41 : Int32 → Int32 → Int32 → sx_M → sx_L → Prop} {Q : sx_M → sx_L → Prop} (hX : sx_C X K prog_13_method_83_code 7 "SensorTreeModel" none rm_Mo_finds l) (hK : kx_F K) (hE : sx_E X K (sx_Qv K Q))  (hk33 : ∀ (v1 : Int32) (v2 : Int32) (σ : sx_M) (τ : sx_L) , k33 v1 v2 σ τ → sx_G X K 7 33 [(0, .ref (K.2.2.1 50 0 0)), (1, .int v1), (2, .int v2)] [] (sx_H K σ τ)) (hk41 : ∀ (v1 : Int32) (v2 : Int32) (v3 : Int32) (σ : sx_M) (τ : sx_L) , k41 v1 v2 v3 σ τ → sx_G X K 7 41 [(0, .ref (K.2.2.1 50 0 0)), (1, .int v1), (2, .int v2), (3, .int v3)] [] (sx_H K σ τ)) (v1 : Int32) (v2 : Int32) (v3 : Int32) (v4 : Int32) (v5 : Int32) (v6 : Int32) (σ : sx_M) (τ : sx_L)  (h : wp_Mo_finds_b164 k33 k41 Q  v1 v2 v3 v4 v5 v6 σ τ) : sx_G X K 7 164 [(0, .ref (K.2.2.1 50 0 0)), (1, .int v1), (2, .int v2), (3, .int v3), (4, .int v4), (5, .int v5), (6, .int v6)] [] (sx_H K σ τ) := by
  unfold wp_Mo_finds_b164 at h
  refine sx_aload_n (pc2 := 165) hX 0 d_Mo_finds_164 rfl rfl rfl ?_
  refine fg_Mo_89 (pc2 := 168) hX (kr_50 hK) d_Mo_finds_165 rfl ?_
  refine sx_iload (pc2 := 170) hX 5 d_Mo_finds_168 rfl rfl ?_
  obtain ⟨hc1, h⟩ := h
  refine sx_iald (pc2 := 171) hX (kr_74 hK) rfl hc1 d_Mo_finds_170 rfl ?_
  refine sx_sipush (v := 9999) (pc2 := 174) hX d_Mo_finds_171 (by decide) rfl ?_
  refine sx_icmp_ge (tgt := 216) (pc2 := 177) hX d_Mo_finds_174 (by decide) rfl (fun hc2 => ?_) (fun hc2 => ?_)
  · replace h := sx_t h hc2
    refine sx_sub [(0, .ref (K.2.2.1 50 0 0)), (1, .int v1), (2, .int v2), (3, .int v3)] [0, 1, 2, 3] rfl ?_
    exact g_Mo_finds_b216 hX hK hE  hk33 hk41 v1 v2 v3 _ _ h
  · replace h := sx_f h hc2
    refine sx_aload_n (pc2 := 178) hX 0 d_Mo_finds_177 rfl rfl rfl ?_
    refine fg_Mo_89 (pc2 := 181) hX (kr_50 hK) d_Mo_finds_178 rfl ?_
    refine sx_iload (pc2 := 183) hX 5 d_Mo_finds_181 rfl rfl ?_
    obtain ⟨hc3, h⟩ := h
    refine sx_iald (pc2 := 184) hX (kr_74 hK) rfl hc3 d_Mo_finds_183 rfl ?_
    refine sx_iload (pc2 := 186) hX 6 d_Mo_finds_184 rfl rfl ?_
    refine sx_iadd (pc2 := 187) hX d_Mo_finds_186 rfl ?_
    refine sx_aload_n (pc2 := 188) hX 0 d_Mo_finds_187 rfl rfl rfl ?_
    refine fg_Mo_89 (pc2 := 191) hX (kr_50 hK) d_Mo_finds_188 rfl ?_
    refine sx_iload (pc2 := 193) hX 4 d_Mo_finds_191 rfl rfl ?_
    obtain ⟨hc4, h⟩ := h
    refine sx_iald (pc2 := 194) hX (kr_74 hK) rfl hc4 d_Mo_finds_193 rfl ?_
    refine sx_icmp_ge (tgt := 216) (pc2 := 197) hX d_Mo_finds_194 (by decide) rfl (fun hc5 => ?_) (fun hc5 => ?_)
    · replace h := sx_t h hc5
      refine sx_sub [(0, .ref (K.2.2.1 50 0 0)), (1, .int v1), (2, .int v2), (3, .int v3)] [0, 1, 2, 3] rfl ?_
      exact g_Mo_finds_b216 hX hK hE  hk33 hk41 v1 v2 v3 _ _ h
    · replace h := sx_f h hc5
      refine sx_aload_n (pc2 := 198) hX 0 d_Mo_finds_197 rfl rfl rfl ?_
      refine fg_Mo_89 (pc2 := 201) hX (kr_50 hK) d_Mo_finds_198 rfl ?_
      refine sx_iload (pc2 := 203) hX 4 d_Mo_finds_201 rfl rfl ?_
      refine sx_aload_n (pc2 := 204) hX 0 d_Mo_finds_203 rfl rfl rfl ?_
      refine fg_Mo_89 (pc2 := 207) hX (kr_50 hK) d_Mo_finds_204 rfl ?_
      refine sx_iload (pc2 := 209) hX 5 d_Mo_finds_207 rfl rfl ?_
      obtain ⟨hc6, h⟩ := h
      refine sx_iald (pc2 := 210) hX (kr_74 hK) rfl hc6 d_Mo_finds_209 rfl ?_
      refine sx_iload (pc2 := 212) hX 6 d_Mo_finds_210 rfl rfl ?_
      refine sx_iadd (pc2 := 213) hX d_Mo_finds_212 rfl ?_
      obtain ⟨hc7, h⟩ := h
      refine sx_iast (pc2 := 214) hX (kr_74 hK) (fun _ => rfl) hc7 d_Mo_finds_213 rfl ?_
      refine sx_nm (fun σ8 e8 => ?_)
      replace h := h σ8 e8
      refine sx_iconst (v := 1) (pc2 := 215) hX d_Mo_finds_214 (by decide) rfl ?_
      refine sx_istore_n (pc2 := 216) hX _ [(0, .ref (K.2.2.1 50 0 0)), (1, .int v1), (2, .int 1), (3, .int v3), (4, .int v4), (5, .int v5), (6, .int v6)] [1, 2, 0, 3, 4, 5, 6] d_Mo_finds_215 rfl (by decide) rfl rfl rfl ?_
      refine sx_sub [(0, .ref (K.2.2.1 50 0 0)), (1, .int v1), (2, .int 1), (3, .int v3)] [0, 1, 2, 3] rfl ?_
      exact g_Mo_finds_b216 hX hK hE  hk33 hk41 v1 1 v3 _ _ h
set_option maxRecDepth 100000 in
set_option maxHeartbeats 4000000 in
theorem g_Mo_finds_b41 {l : Launch} {K : sx_K} {X : sx_T}  {k33 : Int32 → Int32 → sx_M → sx_L → Prop} {Q : sx_M → sx_L → Prop} (hX : sx_C X K prog_13_method_83_code 7 "SensorTreeModel" none rm_Mo_finds l) (hK : kx_F K) (hE : sx_E X K (sx_Qv K Q))  (hk33 : ∀ (v1 : Int32) (v2 : Int32) (σ : sx_M) (τ : sx_L) , k33 v1 v2 σ τ → sx_G X K 7 33 [(0, .ref (K.2.2.1 50 0 0)), (1, .int v1), (2, .int v2)] [] (sx_H K σ τ)) : ∀ (f : Nat) (v1 : Int32) (v2 : Int32) (v3 : Int32) (σ : sx_M) (τ : sx_L) , wp_Mo_finds_b41 k33 Q f v1 v2 v3 σ τ → sx_G X K 7 41 [(0, .ref (K.2.2.1 50 0 0)), (1, .int v1), (2, .int v2), (3, .int v3)] [] (sx_H K σ τ) := by
  intro f
  induction f with
  | zero => intro v1 v2 v3 σ τ h; exact (show False from h).elim
  | succ f ih =>
    intro v1 v2 v3 σ τ h
    rw [wp_Mo_finds_b41] at h
    refine sx_iload_n (pc2 := 42) hX 3 d_Mo_finds_41 rfl rfl rfl ?_
    refine sx_aload_n (pc2 := 43) hX 0 d_Mo_finds_42 rfl rfl rfl ?_
    refine fg_Mo_43 (pc2 := 46) hX (kr_50 hK) d_Mo_finds_43 rfl ?_
    refine sx_aload_n (pc2 := 47) hX 0 d_Mo_finds_46 rfl rfl rfl ?_
    refine fg_Mo_170 (pc2 := 50) hX (kr_50 hK) d_Mo_finds_47 rfl ?_
    obtain ⟨hc9, h⟩ := h
    refine sx_iald (pc2 := 51) hX (kr_59 hK) rfl hc9 d_Mo_finds_50 rfl ?_
    refine sx_icmp_ge (tgt := 222) (pc2 := 54) hX d_Mo_finds_51 (by decide) rfl (fun hc10 => ?_) (fun hc10 => ?_)
    · replace h := sx_t h hc10
      refine sx_goto (tgt := 33) hX d_Mo_finds_222 (by decide) ?_
      refine sx_sub [(0, .ref (K.2.2.1 50 0 0)), (1, .int v1), (2, .int v2)] [0, 1, 2] rfl ?_
      exact hk33 v1 v2 _ _ h
    · replace h := sx_f h hc10
      refine sx_aload_n (pc2 := 55) hX 0 d_Mo_finds_54 rfl rfl rfl ?_
      refine fg_Mo_49 (pc2 := 58) hX (kr_50 hK) d_Mo_finds_55 rfl ?_
      refine sx_bipush (v := 16) (pc2 := 60) hX d_Mo_finds_58 (by decide) rfl ?_
      refine sx_aload_n (pc2 := 61) hX 0 d_Mo_finds_60 rfl rfl rfl ?_
      refine fg_Mo_170 (pc2 := 64) hX (kr_50 hK) d_Mo_finds_61 rfl ?_
      refine sx_imul (pc2 := 65) hX d_Mo_finds_64 rfl ?_
      refine sx_iload_n (pc2 := 66) hX 3 d_Mo_finds_65 rfl rfl rfl ?_
      refine sx_iadd (pc2 := 67) hX d_Mo_finds_66 rfl ?_
      obtain ⟨hc11, h⟩ := h
      refine sx_iald (pc2 := 68) hX (kr_61 hK) rfl hc11 d_Mo_finds_67 rfl ?_
      refine sx_istore (pc2 := 70) hX _ [(0, .ref (K.2.2.1 50 0 0)), (1, .int v1), (2, .int v2), (3, .int v3), (4, .int (σ 61 0 0 ((16 * (σ 50 0 0 17)) + v3).toNatClampNeg))] [1, 2, 3, 4, 0] d_Mo_finds_68 (by decide) rfl rfl rfl ?_
      refine sx_aload_n (pc2 := 71) hX 0 d_Mo_finds_70 rfl rfl rfl ?_
      refine fg_Mo_52 (pc2 := 74) hX (kr_50 hK) d_Mo_finds_71 rfl ?_
      refine sx_bipush (v := 16) (pc2 := 76) hX d_Mo_finds_74 (by decide) rfl ?_
      refine sx_aload_n (pc2 := 77) hX 0 d_Mo_finds_76 rfl rfl rfl ?_
      refine fg_Mo_170 (pc2 := 80) hX (kr_50 hK) d_Mo_finds_77 rfl ?_
      refine sx_imul (pc2 := 81) hX d_Mo_finds_80 rfl ?_
      refine sx_iload_n (pc2 := 82) hX 3 d_Mo_finds_81 rfl rfl rfl ?_
      refine sx_iadd (pc2 := 83) hX d_Mo_finds_82 rfl ?_
      obtain ⟨hc12, h⟩ := h
      refine sx_iald (pc2 := 84) hX (kr_62 hK) rfl hc12 d_Mo_finds_83 rfl ?_
      refine sx_istore (pc2 := 86) hX _ [(0, .ref (K.2.2.1 50 0 0)), (1, .int v1), (2, .int v2), (3, .int v3), (4, .int (σ 61 0 0 ((16 * (σ 50 0 0 17)) + v3).toNatClampNeg)), (5, .int (σ 62 0 0 ((16 * (σ 50 0 0 17)) + v3).toNatClampNeg))] [1, 2, 3, 4, 5, 0] d_Mo_finds_84 (by decide) rfl rfl rfl ?_
      refine sx_iload_n (pc2 := 87) hX 3 d_Mo_finds_86 rfl rfl rfl ?_
      refine sx_iload_n (pc2 := 88) hX 1 d_Mo_finds_87 rfl rfl rfl ?_
      refine sx_icmp_eq (tgt := 216) (pc2 := 91) hX d_Mo_finds_88 (by decide) rfl (fun hc13 => ?_) (fun hc13 => ?_)
      · replace h := sx_t h hc13
        refine sx_sub [(0, .ref (K.2.2.1 50 0 0)), (1, .int v1), (2, .int v2), (3, .int v3)] [0, 1, 2, 3] rfl ?_
        exact g_Mo_finds_b216 hX hK hE  hk33 ih v1 v2 v3 _ _ h
      · replace h := sx_f h hc13
        refine sx_aload_n (pc2 := 92) hX 0 d_Mo_finds_91 rfl rfl rfl ?_
        refine sx_iload (pc2 := 94) hX 4 d_Mo_finds_92 rfl rfl ?_
        refine sx_iload (pc2 := 96) hX 5 d_Mo_finds_94 rfl rfl ?_
        refine cl_Mo_258 (pc2 := 99) hX hK h  ⟨Nat.le_of_ble_eq_true rfl, Nat.le_of_ble_eq_true rfl⟩ (Nat.le_of_ble_eq_true rfl) d_Mo_finds_96 rfl (fun r14 σ14 τ14 h => ?_)
        refine sx_if_ne (tgt := 105) (pc2 := 102) hX d_Mo_finds_99 (by decide) rfl (fun hc15 => ?_) (fun hc15 => ?_)
        · replace h := sx_f h hc15
          refine sx_aload_n (pc2 := 106) hX 0 d_Mo_finds_105 rfl rfl rfl ?_
          refine sx_iload_n (pc2 := 107) hX 3 d_Mo_finds_106 rfl rfl rfl ?_
          refine cl_Mo_255 (pc2 := 110) hX hK h  ⟨Nat.le_of_ble_eq_true rfl, Nat.le_of_ble_eq_true rfl⟩ (Nat.le_of_ble_eq_true rfl) d_Mo_finds_107 rfl (fun r16 σ16 τ16 h => ?_)
          refine sx_istore (pc2 := 112) hX _ [(0, .ref (K.2.2.1 50 0 0)), (1, .int v1), (2, .int v2), (3, .int v3), (4, .int (σ 61 0 0 ((16 * (σ 50 0 0 17)) + v3).toNatClampNeg)), (5, .int (σ 62 0 0 ((16 * (σ 50 0 0 17)) + v3).toNatClampNeg)), (6, .int r16)] [1, 2, 3, 4, 5, 6, 0] d_Mo_finds_110 (by decide) rfl rfl rfl ?_
          refine sx_aload_n (pc2 := 113) hX 0 d_Mo_finds_112 rfl rfl rfl ?_
          refine fg_Mo_89 (pc2 := 116) hX (kr_50 hK) d_Mo_finds_113 rfl ?_
          refine sx_iload (pc2 := 118) hX 4 d_Mo_finds_116 rfl rfl ?_
          obtain ⟨hc17, h⟩ := h
          refine sx_iald (pc2 := 119) hX (kr_74 hK) rfl hc17 d_Mo_finds_118 rfl ?_
          refine sx_sipush (v := 9999) (pc2 := 122) hX d_Mo_finds_119 (by decide) rfl ?_
          refine sx_icmp_ge (tgt := 164) (pc2 := 125) hX d_Mo_finds_122 (by decide) rfl (fun hc18 => ?_) (fun hc18 => ?_)
          · replace h := sx_t h hc18
            exact g_Mo_finds_b164 hX hK hE  hk33 ih v1 v2 v3 (σ 61 0 0 ((16 * (σ 50 0 0 17)) + v3).toNatClampNeg) (σ 62 0 0 ((16 * (σ 50 0 0 17)) + v3).toNatClampNeg) r16 _ _ h
          · replace h := sx_f h hc18
            refine sx_aload_n (pc2 := 126) hX 0 d_Mo_finds_125 rfl rfl rfl ?_
            refine fg_Mo_89 (pc2 := 129) hX (kr_50 hK) d_Mo_finds_126 rfl ?_
            refine sx_iload (pc2 := 131) hX 4 d_Mo_finds_129 rfl rfl ?_
            obtain ⟨hc19, h⟩ := h
            refine sx_iald (pc2 := 132) hX (kr_74 hK) rfl hc19 d_Mo_finds_131 rfl ?_
            refine sx_iload (pc2 := 134) hX 6 d_Mo_finds_132 rfl rfl ?_
            refine sx_iadd (pc2 := 135) hX d_Mo_finds_134 rfl ?_
            refine sx_aload_n (pc2 := 136) hX 0 d_Mo_finds_135 rfl rfl rfl ?_
            refine fg_Mo_89 (pc2 := 139) hX (kr_50 hK) d_Mo_finds_136 rfl ?_
            refine sx_iload (pc2 := 141) hX 5 d_Mo_finds_139 rfl rfl ?_
            obtain ⟨hc20, h⟩ := h
            refine sx_iald (pc2 := 142) hX (kr_74 hK) rfl hc20 d_Mo_finds_141 rfl ?_
            refine sx_icmp_ge (tgt := 164) (pc2 := 145) hX d_Mo_finds_142 (by decide) rfl (fun hc21 => ?_) (fun hc21 => ?_)
            · replace h := sx_t h hc21
              exact g_Mo_finds_b164 hX hK hE  hk33 ih v1 v2 v3 (σ 61 0 0 ((16 * (σ 50 0 0 17)) + v3).toNatClampNeg) (σ 62 0 0 ((16 * (σ 50 0 0 17)) + v3).toNatClampNeg) r16 _ _ h
            · replace h := sx_f h hc21
              refine sx_aload_n (pc2 := 146) hX 0 d_Mo_finds_145 rfl rfl rfl ?_
              refine fg_Mo_89 (pc2 := 149) hX (kr_50 hK) d_Mo_finds_146 rfl ?_
              refine sx_iload (pc2 := 151) hX 5 d_Mo_finds_149 rfl rfl ?_
              refine sx_aload_n (pc2 := 152) hX 0 d_Mo_finds_151 rfl rfl rfl ?_
              refine fg_Mo_89 (pc2 := 155) hX (kr_50 hK) d_Mo_finds_152 rfl ?_
              refine sx_iload (pc2 := 157) hX 4 d_Mo_finds_155 rfl rfl ?_
              obtain ⟨hc22, h⟩ := h
              refine sx_iald (pc2 := 158) hX (kr_74 hK) rfl hc22 d_Mo_finds_157 rfl ?_
              refine sx_iload (pc2 := 160) hX 6 d_Mo_finds_158 rfl rfl ?_
              refine sx_iadd (pc2 := 161) hX d_Mo_finds_160 rfl ?_
              obtain ⟨hc23, h⟩ := h
              refine sx_iast (pc2 := 162) hX (kr_74 hK) (fun _ => rfl) hc23 d_Mo_finds_161 rfl ?_
              refine sx_nm (fun σ24 e24 => ?_)
              replace h := h σ24 e24
              refine sx_iconst (v := 1) (pc2 := 163) hX d_Mo_finds_162 (by decide) rfl ?_
              refine sx_istore_n (pc2 := 164) hX _ [(0, .ref (K.2.2.1 50 0 0)), (1, .int v1), (2, .int 1), (3, .int v3), (4, .int (σ 61 0 0 ((16 * (σ 50 0 0 17)) + v3).toNatClampNeg)), (5, .int (σ 62 0 0 ((16 * (σ 50 0 0 17)) + v3).toNatClampNeg)), (6, .int r16)] [1, 2, 0, 3, 4, 5, 6] d_Mo_finds_163 rfl (by decide) rfl rfl rfl ?_
              exact g_Mo_finds_b164 hX hK hE  hk33 ih v1 1 v3 (σ 61 0 0 ((16 * (σ 50 0 0 17)) + v3).toNatClampNeg) (σ 62 0 0 ((16 * (σ 50 0 0 17)) + v3).toNatClampNeg) r16 _ _ h
        · replace h := sx_t h hc15
          refine sx_goto (tgt := 216) hX d_Mo_finds_102 (by decide) ?_
          refine sx_sub [(0, .ref (K.2.2.1 50 0 0)), (1, .int v1), (2, .int v2), (3, .int v3)] [0, 1, 2, 3] rfl ?_
          exact g_Mo_finds_b216 hX hK hE  hk33 ih v1 v2 v3 _ _ h
set_option maxRecDepth 100000 in
set_option maxHeartbeats 4000000 in
theorem g_Mo_finds_b33 {l : Launch} {K : sx_K} {X : sx_T}   {Q : sx_M → sx_L → Prop} (hX : sx_C X K prog_13_method_83_code 7 "SensorTreeModel" none rm_Mo_finds l) (hK : kx_F K) (hE : sx_E X K (sx_Qv K Q))  : ∀ (f : Nat) (v1 : Int32) (v2 : Int32) (σ : sx_M) (τ : sx_L) , wp_Mo_finds_b33 Q f v1 v2 σ τ → sx_G X K 7 33 [(0, .ref (K.2.2.1 50 0 0)), (1, .int v1), (2, .int v2)] [] (sx_H K σ τ) := by
  intro f
  induction f with
  | zero => intro v1 v2 σ τ h; exact (show False from h).elim
  | succ f ih =>
    intro v1 v2 σ τ h
    rw [wp_Mo_finds_b33] at h
    refine sx_iload_n (pc2 := 34) hX 2 d_Mo_finds_33 rfl rfl rfl ?_
    refine sx_if_eq (tgt := 225) (pc2 := 37) hX d_Mo_finds_34 (by decide) rfl (fun hc25 => ?_) (fun hc25 => ?_)
    · replace h := sx_t h hc25
      exact sx_vret hX hE h d_Mo_finds_225
    · replace h := sx_f h hc25
      refine sx_iconst (v := 0) (pc2 := 38) hX d_Mo_finds_37 (by decide) rfl ?_
      refine sx_istore_n (pc2 := 39) hX _ [(0, .ref (K.2.2.1 50 0 0)), (1, .int v1), (2, .int 0)] [1, 2, 0] d_Mo_finds_38 rfl (by decide) rfl rfl rfl ?_
      refine sx_iconst (v := 0) (pc2 := 40) hX d_Mo_finds_39 (by decide) rfl ?_
      refine sx_istore_n (pc2 := 41) hX _ [(0, .ref (K.2.2.1 50 0 0)), (1, .int v1), (2, .int 0), (3, .int 0)] [1, 2, 3, 0] d_Mo_finds_40 rfl (by decide) rfl rfl rfl ?_
      obtain ⟨f41, h⟩ := h
      exact g_Mo_finds_b41 hX hK hE  ih f41 v1 0 0 _ _ h
set_option maxRecDepth 100000 in
set_option maxHeartbeats 4000000 in
theorem g_Mo_finds_b2 {l : Launch} {K : sx_K} {X : sx_T}   {Q : sx_M → sx_L → Prop} (hX : sx_C X K prog_13_method_83_code 7 "SensorTreeModel" none rm_Mo_finds l) (hK : kx_F K) (hE : sx_E X K (sx_Qv K Q))  : ∀ (f : Nat) (v1 : Int32) (v2 : Int32) (σ : sx_M) (τ : sx_L) , wp_Mo_finds_b2 Q f v1 v2 σ τ → sx_G X K 7 2 [(0, .ref (K.2.2.1 50 0 0)), (1, .int v1), (2, .int v2)] [] (sx_H K σ τ) := by
  intro f
  induction f with
  | zero => intro v1 v2 σ τ h; exact (show False from h).elim
  | succ f ih =>
    intro v1 v2 σ τ h
    rw [wp_Mo_finds_b2] at h
    refine sx_iload_n (pc2 := 3) hX 2 d_Mo_finds_2 rfl rfl rfl ?_
    refine sx_bipush (v := 7) (pc2 := 5) hX d_Mo_finds_3 (by decide) rfl ?_
    refine sx_icmp_ge (tgt := 23) (pc2 := 8) hX d_Mo_finds_5 (by decide) rfl (fun hc26 => ?_) (fun hc26 => ?_)
    · replace h := sx_t h hc26
      refine sx_aload_n (pc2 := 24) hX 0 d_Mo_finds_23 rfl rfl rfl ?_
      refine fg_Mo_89 (pc2 := 27) hX (kr_50 hK) d_Mo_finds_24 rfl ?_
      refine sx_iconst (v := 0) (pc2 := 28) hX d_Mo_finds_27 (by decide) rfl ?_
      refine sx_bipush (v := 10) (pc2 := 30) hX d_Mo_finds_28 (by decide) rfl ?_
      obtain ⟨hc27, h⟩ := h
      refine sx_iast (pc2 := 31) hX (kr_74 hK) (fun _ => rfl) hc27 d_Mo_finds_30 rfl ?_
      refine sx_nm (fun σ28 e28 => ?_)
      replace h := h σ28 e28
      refine sx_iconst (v := 1) (pc2 := 32) hX d_Mo_finds_31 (by decide) rfl ?_
      refine sx_istore_n (pc2 := 33) hX _ [(0, .ref (K.2.2.1 50 0 0)), (1, .int v1), (2, .int 1)] [1, 2, 0] d_Mo_finds_32 rfl (by decide) rfl rfl rfl ?_
      obtain ⟨f33, h⟩ := h
      exact g_Mo_finds_b33 hX hK hE   f33 v1 1 _ _ h
    · replace h := sx_f h hc26
      refine sx_aload_n (pc2 := 9) hX 0 d_Mo_finds_8 rfl rfl rfl ?_
      refine fg_Mo_89 (pc2 := 12) hX (kr_50 hK) d_Mo_finds_9 rfl ?_
      refine sx_iload_n (pc2 := 13) hX 2 d_Mo_finds_12 rfl rfl rfl ?_
      refine sx_sipush (v := 9999) (pc2 := 16) hX d_Mo_finds_13 (by decide) rfl ?_
      obtain ⟨hc29, h⟩ := h
      refine sx_iast (pc2 := 17) hX (kr_74 hK) (fun _ => rfl) hc29 d_Mo_finds_16 rfl ?_
      refine sx_nm (fun σ30 e30 => ?_)
      replace h := h σ30 e30
      refine sx_iinc (pc2 := 20) hX 2 _ [(0, .ref (K.2.2.1 50 0 0)), (1, .int v1), (2, .int (v2 + 1))] [1, 2, 0] d_Mo_finds_17 rfl (v2 + 1) rfl (by decide) rfl rfl rfl ?_
      refine sx_goto (tgt := 2) hX d_Mo_finds_20 (by decide) ?_
      exact ih v1 (v2 + 1) _ _ h
set_option maxRecDepth 100000 in
set_option maxHeartbeats 4000000 in
theorem c_Mo_finds {l : Launch} {K : sx_K} (hK : kx_F K) (x1 : Int32) (σ : sx_M) (τ : sx_L) (Q : sx_M → sx_L → Prop)  (h : wp_Mo_finds x1 σ τ Q) : Met l y_Mo_finds (sx_wd y_Mo_finds prog_13_method_83_code 7 none) rm_Mo_finds (sx_Pc K [.ref (K.2.2.1 50 0 0), .int x1] σ τ) (sx_Qv K Q) 0 0 (sx_A K) := by
  refine sx_met (by decide) (Nat.le_of_ble_eq_true rfl) (fun X hX hE => ?_)
  replace hX : sx_C X K prog_13_method_83_code 7 "SensorTreeModel" none rm_Mo_finds l := hX
  show sx_G X K 7 0 [(0, .ref (K.2.2.1 50 0 0)), (1, .int x1)] [] (sx_H K σ τ)
  unfold wp_Mo_finds at h
  refine sx_iconst (v := 0) (pc2 := 1) hX d_Mo_finds_0 (by decide) rfl ?_
  refine sx_istore_n (pc2 := 2) hX _ [(0, .ref (K.2.2.1 50 0 0)), (1, .int x1), (2, .int 0)] [1, 2, 0] d_Mo_finds_1 rfl (by decide) rfl rfl rfl ?_
  obtain ⟨f2, h⟩ := h
  exact g_Mo_finds_b2 hX hK hE   f2 x1 0 _ _ h
theorem cl_Mo_344 {X : sx_T} {K : sx_K} {cc : ByteArray} {nL : Nat} {ret : Option FieldType} {rm : Room} {l : Launch} {pc pc2 : Nat} {lv : List (Nat × Value)} {st : List Value} {σ : sx_M} {τ : sx_L} {x1 : Int32} {Q : sx_M → sx_L → Prop} (hX : sx_C X K cc nL "SensorTreeModel" ret rm l) (hK : kx_F K) (h : wp_Mo_finds x1 σ τ Q)  (hR : rm_Mo_finds.frames + 1 ≤ rm.frames ∧ 8 + (7 + 11) + rm_Mo_finds.locals ≤ rm.locals) (hst : (st.map fun v => v.category).sum ≤ 8) (hd : decode cc pc = .ok (.invokevirtual 344, 3)) (hpc : pc + 3 = pc2) (kk : ∀ (σ2 : sx_M) (τ2 : sx_L), Q σ2 τ2 → sx_G X K nL pc2 lv (st) (sx_H K σ2 τ2)) : sx_G X K nL pc lv (.int x1 :: .ref (K.2.2.1 50 0 0) :: st) (sx_H K σ τ) :=
  sx_callVv (Q := Q) (As := [.int x1]) hX (c_Mo_finds hK x1 σ τ Q  h) (kr_50 hK) rfl rfl lk_550 ls_90 hy_Mo_finds lk_548 lk_364 lk_549 ⟨rfl, rfl⟩ hR hst rfl hd hpc kk
def y_Mo_truth : MethodName := ⟨"SensorTreeModel", "truth", "(I)I"⟩
theorem hy_Mo_truth : y_Mo_truth.cls ≠ "java/lang/invoke/MethodHandle" ∧ y_Mo_truth.cls ≠ "java/lang/invoke/VarHandle" ∧ (parseMethodDescriptor y_Mo_truth.desc).map (fun d => d.parameters.length) = some 1 := by decide +kernel
theorem d_Mo_truth_0 : decode prog_13_method_84_code 0 = .ok (.aload_n 0, 1) := by decide +kernel
theorem d_Mo_truth_1 : decode prog_13_method_84_code 1 = .ok (.iload_n 1, 1) := by decide +kernel
theorem d_Mo_truth_2 : decode prog_13_method_84_code 2 = .ok (.invokevirtual 341, 3) := by decide +kernel
theorem d_Mo_truth_5 : decode prog_13_method_84_code 5 = .ok (.ifCond .ne 5, 3) := by decide +kernel
theorem d_Mo_truth_8 : decode prog_13_method_84_code 8 = .ok (.iconst (-1), 1) := by decide +kernel
theorem d_Mo_truth_9 : decode prog_13_method_84_code 9 = .ok (.ireturn, 1) := by decide +kernel
theorem d_Mo_truth_10 : decode prog_13_method_84_code 10 = .ok (.aload_n 0, 1) := by decide +kernel
theorem d_Mo_truth_11 : decode prog_13_method_84_code 11 = .ok (.invokevirtual 317, 3) := by decide +kernel
theorem d_Mo_truth_14 : decode prog_13_method_84_code 14 = .ok (.aload_n 0, 1) := by decide +kernel
theorem d_Mo_truth_15 : decode prog_13_method_84_code 15 = .ok (.iconst (-1), 1) := by decide +kernel
theorem d_Mo_truth_16 : decode prog_13_method_84_code 16 = .ok (.invokevirtual 344, 3) := by decide +kernel
theorem d_Mo_truth_19 : decode prog_13_method_84_code 19 = .ok (.aload_n 0, 1) := by decide +kernel
theorem d_Mo_truth_20 : decode prog_13_method_84_code 20 = .ok (.getfield 89, 3) := by decide +kernel
theorem d_Mo_truth_23 : decode prog_13_method_84_code 23 = .ok (.iload_n 1, 1) := by decide +kernel
theorem d_Mo_truth_24 : decode prog_13_method_84_code 24 = .ok (.iaload, 1) := by decide +kernel
theorem d_Mo_truth_25 : decode prog_13_method_84_code 25 = .ok (.ireturn, 1) := by decide +kernel
def wp_Mo_truth (x1 : Int32) (σ : sx_M) (τ : sx_L) (Q : Int32 → sx_M → sx_L → Prop) : Prop := wp_Mo_isNowOn x1 σ τ (fun r1 σ1 τ1 => if r1 = 0 then (Q (-1) σ1 τ1) else (wp_Mo_copies σ1 τ1 (fun σ3 τ3 => wp_Mo_finds (-1 : Int32) σ3 τ3 (fun σ4 τ4 => vp_in x1 7 ∧ (Q (σ4 74 0 0 x1.toNatClampNeg) σ4 τ4)))))
abbrev rm_Mo_truth : Room := { frames := 3, cells := 0, slots := 0, locals := 70 }
set_option maxRecDepth 100000 in
set_option maxHeartbeats 4000000 in
theorem c_Mo_truth {l : Launch} {K : sx_K} (hK : kx_F K) (x1 : Int32) (σ : sx_M) (τ : sx_L) (Q : Int32 → sx_M → sx_L → Prop)  (h : wp_Mo_truth x1 σ τ Q) : Met l y_Mo_truth (sx_wd y_Mo_truth prog_13_method_84_code 2 (some .int)) rm_Mo_truth (sx_Pc K [.ref (K.2.2.1 50 0 0), .int x1] σ τ) (sx_Qi K Q) 0 0 (sx_A K) := by
  refine sx_met (by decide) (Nat.le_of_ble_eq_true rfl) (fun X hX hE => ?_)
  replace hX : sx_C X K prog_13_method_84_code 2 "SensorTreeModel" (some .int) rm_Mo_truth l := hX
  show sx_G X K 2 0 [(0, .ref (K.2.2.1 50 0 0)), (1, .int x1)] [] (sx_H K σ τ)
  unfold wp_Mo_truth at h
  refine sx_aload_n (pc2 := 1) hX 0 d_Mo_truth_0 rfl rfl rfl ?_
  refine sx_iload_n (pc2 := 2) hX 1 d_Mo_truth_1 rfl rfl rfl ?_
  refine cl_Mo_341 (pc2 := 5) hX hK h  ⟨Nat.le_of_ble_eq_true rfl, Nat.le_of_ble_eq_true rfl⟩ (Nat.le_of_ble_eq_true rfl) d_Mo_truth_2 rfl (fun r1 σ1 τ1 h => ?_)
  refine sx_if_ne (tgt := 10) (pc2 := 8) hX d_Mo_truth_5 (by decide) rfl (fun hc2 => ?_) (fun hc2 => ?_)
  · replace h := sx_f h hc2
    refine sx_aload_n (pc2 := 11) hX 0 d_Mo_truth_10 rfl rfl rfl ?_
    refine cl_Mo_317 (pc2 := 14) hX hK h  ⟨Nat.le_of_ble_eq_true rfl, Nat.le_of_ble_eq_true rfl⟩ (Nat.le_of_ble_eq_true rfl) d_Mo_truth_11 rfl (fun σ3 τ3 h => ?_)
    refine sx_aload_n (pc2 := 15) hX 0 d_Mo_truth_14 rfl rfl rfl ?_
    refine sx_iconst (v := (-1)) (pc2 := 16) hX d_Mo_truth_15 (by decide) rfl ?_
    refine cl_Mo_344 (pc2 := 19) hX hK h  ⟨Nat.le_of_ble_eq_true rfl, Nat.le_of_ble_eq_true rfl⟩ (Nat.le_of_ble_eq_true rfl) d_Mo_truth_16 rfl (fun σ4 τ4 h => ?_)
    refine sx_aload_n (pc2 := 20) hX 0 d_Mo_truth_19 rfl rfl rfl ?_
    refine fg_Mo_89 (pc2 := 23) hX (kr_50 hK) d_Mo_truth_20 rfl ?_
    refine sx_iload_n (pc2 := 24) hX 1 d_Mo_truth_23 rfl rfl rfl ?_
    obtain ⟨hc5, h⟩ := h
    refine sx_iald (pc2 := 25) hX (kr_74 hK) rfl hc5 d_Mo_truth_24 rfl ?_
    exact sx_iret hX hE h d_Mo_truth_25
  · replace h := sx_t h hc2
    refine sx_iconst (v := (-1)) (pc2 := 9) hX d_Mo_truth_8 (by decide) rfl ?_
    exact sx_iret hX hE h d_Mo_truth_9
def y_Mo_above : MethodName := ⟨"SensorTreeModel", "above", "(I)I"⟩
theorem hy_Mo_above : y_Mo_above.cls ≠ "java/lang/invoke/MethodHandle" ∧ y_Mo_above.cls ≠ "java/lang/invoke/VarHandle" ∧ (parseMethodDescriptor y_Mo_above.desc).map (fun d => d.parameters.length) = some 1 := by decide +kernel
theorem d_Mo_above_0 : decode prog_13_method_85_code 0 = .ok (.iload_n 1, 1) := by decide +kernel
theorem d_Mo_above_1 : decode prog_13_method_85_code 1 = .ok (.istore_n 2, 1) := by decide +kernel
theorem d_Mo_above_2 : decode prog_13_method_85_code 2 = .ok (.iconst 0, 1) := by decide +kernel
theorem d_Mo_above_3 : decode prog_13_method_85_code 3 = .ok (.istore_n 3, 1) := by decide +kernel
theorem d_Mo_above_4 : decode prog_13_method_85_code 4 = .ok (.iload_n 3, 1) := by decide +kernel
theorem d_Mo_above_5 : decode prog_13_method_85_code 5 = .ok (.bipush 7, 2) := by decide +kernel
theorem d_Mo_above_7 : decode prog_13_method_85_code 7 = .ok (.if_icmp .ge 28, 3) := by decide +kernel
theorem d_Mo_above_10 : decode prog_13_method_85_code 10 = .ok (.iload_n 2, 1) := by decide +kernel
theorem d_Mo_above_11 : decode prog_13_method_85_code 11 = .ok (.ifCond .ne 5, 3) := by decide +kernel
theorem d_Mo_above_14 : decode prog_13_method_85_code 14 = .ok (.iload_n 3, 1) := by decide +kernel
theorem d_Mo_above_15 : decode prog_13_method_85_code 15 = .ok (.ireturn, 1) := by decide +kernel
theorem d_Mo_above_16 : decode prog_13_method_85_code 16 = .ok (.aload_n 0, 1) := by decide +kernel
theorem d_Mo_above_17 : decode prog_13_method_85_code 17 = .ok (.iload_n 2, 1) := by decide +kernel
theorem d_Mo_above_18 : decode prog_13_method_85_code 18 = .ok (.iconst 2, 1) := by decide +kernel
theorem d_Mo_above_19 : decode prog_13_method_85_code 19 = .ok (.invokevirtual 246, 3) := by decide +kernel
theorem d_Mo_above_22 : decode prog_13_method_85_code 22 = .ok (.istore_n 2, 1) := by decide +kernel
theorem d_Mo_above_23 : decode prog_13_method_85_code 23 = .ok (.iload_n 2, 1) := by decide +kernel
theorem d_Mo_above_24 : decode prog_13_method_85_code 24 = .ok (.ifCond .ge 5, 3) := by decide +kernel
theorem d_Mo_above_27 : decode prog_13_method_85_code 27 = .ok (.iconst (-1), 1) := by decide +kernel
theorem d_Mo_above_28 : decode prog_13_method_85_code 28 = .ok (.ireturn, 1) := by decide +kernel
theorem d_Mo_above_29 : decode prog_13_method_85_code 29 = .ok (.iinc 3 1, 3) := by decide +kernel
theorem d_Mo_above_32 : decode prog_13_method_85_code 32 = .ok (.goto (-28), 3) := by decide +kernel
theorem d_Mo_above_35 : decode prog_13_method_85_code 35 = .ok (.iconst (-1), 1) := by decide +kernel
theorem d_Mo_above_36 : decode prog_13_method_85_code 36 = .ok (.ireturn, 1) := by decide +kernel
def wp_Mo_above_b4   (Q : Int32 → sx_M → sx_L → Prop) : Nat → Int32 → Int32 → sx_M → sx_L → Prop
  | 0, _, _, _, _ => False
  | f + 1, v2, v3, σ, τ => if 7 ≤ v3 then (Q (-1) σ τ) else (if v2 = 0 then (Q v3 σ τ) else (wp_Mo_of v2 (2 : Int32) σ τ (fun r3 σ3 τ3 => if 0 ≤ r3 then (wp_Mo_above_b4 Q f r3 (v3 + 1) σ3 τ3) else (Q (-1) σ3 τ3))))
def wp_Mo_above (x1 : Int32) (σ : sx_M) (τ : sx_L) (Q : Int32 → sx_M → sx_L → Prop) : Prop := ∃ f4, wp_Mo_above_b4 Q f4 x1 0 σ τ
abbrev rm_Mo_above : Room := { frames := 1, cells := 0, slots := 0, locals := 22 }
set_option maxRecDepth 100000 in
set_option maxHeartbeats 4000000 in
theorem g_Mo_above_b4 {l : Launch} {K : sx_K} {X : sx_T}   {Q : Int32 → sx_M → sx_L → Prop} (hX : sx_C X K prog_13_method_85_code 4 "SensorTreeModel" (some .int) rm_Mo_above l) (hK : kx_F K) (hE : sx_E X K (sx_Qi K Q))  : ∀ (f : Nat) (v2 : Int32) (v3 : Int32) (σ : sx_M) (τ : sx_L) , wp_Mo_above_b4 Q f v2 v3 σ τ → sx_G X K 4 4 [(0, .ref (K.2.2.1 50 0 0)), (2, .int v2), (3, .int v3)] [] (sx_H K σ τ) := by
  intro f
  induction f with
  | zero => intro v2 v3 σ τ h; exact (show False from h).elim
  | succ f ih =>
    intro v2 v3 σ τ h
    rw [wp_Mo_above_b4] at h
    refine sx_iload_n (pc2 := 5) hX 2 d_Mo_above_4 rfl rfl rfl ?_
    refine sx_bipush (v := 7) (pc2 := 7) hX d_Mo_above_5 (by decide) rfl ?_
    refine sx_icmp_ge (tgt := 35) (pc2 := 10) hX d_Mo_above_7 (by decide) rfl (fun hc1 => ?_) (fun hc1 => ?_)
    · replace h := sx_t h hc1
      refine sx_iconst (v := (-1)) (pc2 := 36) hX d_Mo_above_35 (by decide) rfl ?_
      exact sx_iret hX hE h d_Mo_above_36
    · replace h := sx_f h hc1
      refine sx_iload_n (pc2 := 11) hX 1 d_Mo_above_10 rfl rfl rfl ?_
      refine sx_if_ne (tgt := 16) (pc2 := 14) hX d_Mo_above_11 (by decide) rfl (fun hc2 => ?_) (fun hc2 => ?_)
      · replace h := sx_f h hc2
        refine sx_aload_n (pc2 := 17) hX 0 d_Mo_above_16 rfl rfl rfl ?_
        refine sx_iload_n (pc2 := 18) hX 1 d_Mo_above_17 rfl rfl rfl ?_
        refine sx_iconst (v := 2) (pc2 := 19) hX d_Mo_above_18 (by decide) rfl ?_
        refine cl_Mo_246 (pc2 := 22) hX hK h  ⟨Nat.le_of_ble_eq_true rfl, Nat.le_of_ble_eq_true rfl⟩ (Nat.le_of_ble_eq_true rfl) d_Mo_above_19 rfl (fun r3 σ3 τ3 h => ?_)
        refine sx_istore_n (pc2 := 23) hX _ [(0, .ref (K.2.2.1 50 0 0)), (2, .int r3), (3, .int v3)] [1, 0, 2] d_Mo_above_22 rfl (by decide) rfl rfl rfl ?_
        refine sx_iload_n (pc2 := 24) hX 1 d_Mo_above_23 rfl rfl rfl ?_
        refine sx_if_ge (tgt := 29) (pc2 := 27) hX d_Mo_above_24 (by decide) rfl (fun hc4 => ?_) (fun hc4 => ?_)
        · replace h := sx_t h hc4
          refine sx_iinc (pc2 := 32) hX 2 _ [(0, .ref (K.2.2.1 50 0 0)), (2, .int r3), (3, .int (v3 + 1))] [1, 2, 0] d_Mo_above_29 rfl (v3 + 1) rfl (by decide) rfl rfl rfl ?_
          refine sx_goto (tgt := 4) hX d_Mo_above_32 (by decide) ?_
          exact ih r3 (v3 + 1) _ _ h
        · replace h := sx_f h hc4
          refine sx_iconst (v := (-1)) (pc2 := 28) hX d_Mo_above_27 (by decide) rfl ?_
          exact sx_iret hX hE h d_Mo_above_28
      · replace h := sx_t h hc2
        refine sx_iload_n (pc2 := 15) hX 2 d_Mo_above_14 rfl rfl rfl ?_
        exact sx_iret hX hE h d_Mo_above_15
set_option maxRecDepth 100000 in
set_option maxHeartbeats 4000000 in
theorem c_Mo_above {l : Launch} {K : sx_K} (hK : kx_F K) (x1 : Int32) (σ : sx_M) (τ : sx_L) (Q : Int32 → sx_M → sx_L → Prop)  (h : wp_Mo_above x1 σ τ Q) : Met l y_Mo_above (sx_wd y_Mo_above prog_13_method_85_code 4 (some .int)) rm_Mo_above (sx_Pc K [.ref (K.2.2.1 50 0 0), .int x1] σ τ) (sx_Qi K Q) 0 0 (sx_A K) := by
  refine sx_met (by decide) (Nat.le_of_ble_eq_true rfl) (fun X hX hE => ?_)
  replace hX : sx_C X K prog_13_method_85_code 4 "SensorTreeModel" (some .int) rm_Mo_above l := hX
  show sx_G X K 4 0 [(0, .ref (K.2.2.1 50 0 0)), (1, .int x1)] [] (sx_H K σ τ)
  unfold wp_Mo_above at h
  refine sx_iload_n (pc2 := 1) hX 1 d_Mo_above_0 rfl rfl rfl ?_
  refine sx_istore_n (pc2 := 2) hX _ [(0, .ref (K.2.2.1 50 0 0)), (1, .int x1), (2, .int x1)] [1, 2, 0] d_Mo_above_1 rfl (by decide) rfl rfl rfl ?_
  refine sx_iconst (v := 0) (pc2 := 3) hX d_Mo_above_2 (by decide) rfl ?_
  refine sx_istore_n (pc2 := 4) hX _ [(0, .ref (K.2.2.1 50 0 0)), (1, .int x1), (2, .int x1), (3, .int 0)] [1, 2, 3, 0] d_Mo_above_3 rfl (by decide) rfl rfl rfl ?_
  refine sx_sub [(0, .ref (K.2.2.1 50 0 0)), (2, .int x1), (3, .int 0)] [0, 2, 3] rfl ?_
  obtain ⟨f4, h⟩ := h
  exact g_Mo_above_b4 hX hK hE   f4 x1 0 _ _ h
theorem cl_Mo_347 {X : sx_T} {K : sx_K} {cc : ByteArray} {nL : Nat} {ret : Option FieldType} {rm : Room} {l : Launch} {pc pc2 : Nat} {lv : List (Nat × Value)} {st : List Value} {σ : sx_M} {τ : sx_L} {x1 : Int32} {Q : Int32 → sx_M → sx_L → Prop} (hX : sx_C X K cc nL "SensorTreeModel" ret rm l) (hK : kx_F K) (h : wp_Mo_above x1 σ τ Q)  (hR : rm_Mo_above.frames + 1 ≤ rm.frames ∧ 8 + (4 + 11) + rm_Mo_above.locals ≤ rm.locals) (hst : (st.map fun v => v.category).sum ≤ 8) (hd : decode cc pc = .ok (.invokevirtual 347, 3)) (hpc : pc + 3 = pc2) (kk : ∀ (r : Int32) (σ2 : sx_M) (τ2 : sx_L), Q r σ2 τ2 → sx_G X K nL pc2 lv (.int r :: st) (sx_H K σ2 τ2)) : sx_G X K nL pc lv (.int x1 :: .ref (K.2.2.1 50 0 0) :: st) (sx_H K σ τ) :=
  sx_callVi (Q := Q) (As := [.int x1]) hX (c_Mo_above hK x1 σ τ Q  h) (kr_50 hK) rfl rfl lk_553 ls_92 hy_Mo_above lk_551 lk_364 lk_552 ⟨rfl, rfl⟩ hR hst rfl hd hpc kk
def y_Mo_isRight : MethodName := ⟨"SensorTreeModel", "isRight", "()Z"⟩
theorem hy_Mo_isRight : y_Mo_isRight.cls ≠ "java/lang/invoke/MethodHandle" ∧ y_Mo_isRight.cls ≠ "java/lang/invoke/VarHandle" ∧ (parseMethodDescriptor y_Mo_isRight.desc).map (fun d => d.parameters.length) = some 0 := by decide +kernel
theorem d_Mo_isRight_0 : decode prog_13_method_86_code 0 = .ok (.aload_n 0, 1) := by decide +kernel
theorem d_Mo_isRight_1 : decode prog_13_method_86_code 1 = .ok (.iconst (-1), 1) := by decide +kernel
theorem d_Mo_isRight_2 : decode prog_13_method_86_code 2 = .ok (.invokevirtual 344, 3) := by decide +kernel
theorem d_Mo_isRight_5 : decode prog_13_method_86_code 5 = .ok (.iconst 1, 1) := by decide +kernel
theorem d_Mo_isRight_6 : decode prog_13_method_86_code 6 = .ok (.istore_n 1, 1) := by decide +kernel
theorem d_Mo_isRight_7 : decode prog_13_method_86_code 7 = .ok (.iload_n 1, 1) := by decide +kernel
theorem d_Mo_isRight_8 : decode prog_13_method_86_code 8 = .ok (.aload_n 0, 1) := by decide +kernel
theorem d_Mo_isRight_9 : decode prog_13_method_86_code 9 = .ok (.getfield 40, 3) := by decide +kernel
theorem d_Mo_isRight_12 : decode prog_13_method_86_code 12 = .ok (.aload_n 0, 1) := by decide +kernel
theorem d_Mo_isRight_13 : decode prog_13_method_86_code 13 = .ok (.getfield 170, 3) := by decide +kernel
theorem d_Mo_isRight_16 : decode prog_13_method_86_code 16 = .ok (.iaload, 1) := by decide +kernel
theorem d_Mo_isRight_17 : decode prog_13_method_86_code 17 = .ok (.if_icmp .ge 115, 3) := by decide +kernel
theorem d_Mo_isRight_20 : decode prog_13_method_86_code 20 = .ok (.aload_n 0, 1) := by decide +kernel
theorem d_Mo_isRight_21 : decode prog_13_method_86_code 21 = .ok (.iload_n 1, 1) := by decide +kernel
theorem d_Mo_isRight_22 : decode prog_13_method_86_code 22 = .ok (.invokevirtual 252, 3) := by decide +kernel
theorem d_Mo_isRight_25 : decode prog_13_method_86_code 25 = .ok (.ifCond .ne 6, 3) := by decide +kernel
theorem d_Mo_isRight_28 : decode prog_13_method_86_code 28 = .ok (.goto 98, 3) := by decide +kernel
theorem d_Mo_isRight_31 : decode prog_13_method_86_code 31 = .ok (.aload_n 0, 1) := by decide +kernel
theorem d_Mo_isRight_32 : decode prog_13_method_86_code 32 = .ok (.iload_n 1, 1) := by decide +kernel
theorem d_Mo_isRight_33 : decode prog_13_method_86_code 33 = .ok (.iconst 0, 1) := by decide +kernel
theorem d_Mo_isRight_34 : decode prog_13_method_86_code 34 = .ok (.invokevirtual 246, 3) := by decide +kernel
theorem d_Mo_isRight_37 : decode prog_13_method_86_code 37 = .ok (.aload_n 0, 1) := by decide +kernel
theorem d_Mo_isRight_38 : decode prog_13_method_86_code 38 = .ok (.iconst 0, 1) := by decide +kernel
theorem d_Mo_isRight_39 : decode prog_13_method_86_code 39 = .ok (.iconst 0, 1) := by decide +kernel
theorem d_Mo_isRight_40 : decode prog_13_method_86_code 40 = .ok (.invokevirtual 246, 3) := by decide +kernel
theorem d_Mo_isRight_43 : decode prog_13_method_86_code 43 = .ok (.if_icmp .eq 5, 3) := by decide +kernel
theorem d_Mo_isRight_46 : decode prog_13_method_86_code 46 = .ok (.iconst 0, 1) := by decide +kernel
theorem d_Mo_isRight_47 : decode prog_13_method_86_code 47 = .ok (.ireturn, 1) := by decide +kernel
theorem d_Mo_isRight_48 : decode prog_13_method_86_code 48 = .ok (.aload_n 0, 1) := by decide +kernel
theorem d_Mo_isRight_49 : decode prog_13_method_86_code 49 = .ok (.getfield 89, 3) := by decide +kernel
theorem d_Mo_isRight_52 : decode prog_13_method_86_code 52 = .ok (.iload_n 1, 1) := by decide +kernel
theorem d_Mo_isRight_53 : decode prog_13_method_86_code 53 = .ok (.iaload, 1) := by decide +kernel
theorem d_Mo_isRight_54 : decode prog_13_method_86_code 54 = .ok (.sipush 9999, 3) := by decide +kernel
theorem d_Mo_isRight_57 : decode prog_13_method_86_code 57 = .ok (.if_icmp .ne 17, 3) := by decide +kernel
theorem d_Mo_isRight_60 : decode prog_13_method_86_code 60 = .ok (.aload_n 0, 1) := by decide +kernel
theorem d_Mo_isRight_61 : decode prog_13_method_86_code 61 = .ok (.iload_n 1, 1) := by decide +kernel
theorem d_Mo_isRight_62 : decode prog_13_method_86_code 62 = .ok (.iconst 1, 1) := by decide +kernel
theorem d_Mo_isRight_63 : decode prog_13_method_86_code 63 = .ok (.invokevirtual 246, 3) := by decide +kernel
theorem d_Mo_isRight_66 : decode prog_13_method_86_code 66 = .ok (.sipush 9999, 3) := by decide +kernel
theorem d_Mo_isRight_69 : decode prog_13_method_86_code 69 = .ok (.if_icmp .eq 57, 3) := by decide +kernel
theorem d_Mo_isRight_72 : decode prog_13_method_86_code 72 = .ok (.iconst 0, 1) := by decide +kernel
theorem d_Mo_isRight_73 : decode prog_13_method_86_code 73 = .ok (.ireturn, 1) := by decide +kernel
theorem d_Mo_isRight_74 : decode prog_13_method_86_code 74 = .ok (.aload_n 0, 1) := by decide +kernel
theorem d_Mo_isRight_75 : decode prog_13_method_86_code 75 = .ok (.iload_n 1, 1) := by decide +kernel
theorem d_Mo_isRight_76 : decode prog_13_method_86_code 76 = .ok (.iconst 2, 1) := by decide +kernel
theorem d_Mo_isRight_77 : decode prog_13_method_86_code 77 = .ok (.invokevirtual 246, 3) := by decide +kernel
theorem d_Mo_isRight_80 : decode prog_13_method_86_code 80 = .ok (.istore_n 2, 1) := by decide +kernel
theorem d_Mo_isRight_81 : decode prog_13_method_86_code 81 = .ok (.iload_n 2, 1) := by decide +kernel
theorem d_Mo_isRight_82 : decode prog_13_method_86_code 82 = .ok (.ifCond .lt 42, 3) := by decide +kernel
theorem d_Mo_isRight_85 : decode prog_13_method_86_code 85 = .ok (.aload_n 0, 1) := by decide +kernel
theorem d_Mo_isRight_86 : decode prog_13_method_86_code 86 = .ok (.iload_n 1, 1) := by decide +kernel
theorem d_Mo_isRight_87 : decode prog_13_method_86_code 87 = .ok (.iload_n 2, 1) := by decide +kernel
theorem d_Mo_isRight_88 : decode prog_13_method_86_code 88 = .ok (.invokevirtual 258, 3) := by decide +kernel
theorem d_Mo_isRight_91 : decode prog_13_method_86_code 91 = .ok (.ifCond .eq 33, 3) := by decide +kernel
theorem d_Mo_isRight_94 : decode prog_13_method_86_code 94 = .ok (.aload_n 0, 1) := by decide +kernel
theorem d_Mo_isRight_95 : decode prog_13_method_86_code 95 = .ok (.iload_n 2, 1) := by decide +kernel
theorem d_Mo_isRight_96 : decode prog_13_method_86_code 96 = .ok (.iconst 1, 1) := by decide +kernel
theorem d_Mo_isRight_97 : decode prog_13_method_86_code 97 = .ok (.invokevirtual 246, 3) := by decide +kernel
theorem d_Mo_isRight_100 : decode prog_13_method_86_code 100 = .ok (.aload_n 0, 1) := by decide +kernel
theorem d_Mo_isRight_101 : decode prog_13_method_86_code 101 = .ok (.iload_n 1, 1) := by decide +kernel
theorem d_Mo_isRight_102 : decode prog_13_method_86_code 102 = .ok (.iload_n 2, 1) := by decide +kernel
theorem d_Mo_isRight_103 : decode prog_13_method_86_code 103 = .ok (.invokevirtual 284, 3) := by decide +kernel
theorem d_Mo_isRight_106 : decode prog_13_method_86_code 106 = .ok (.iadd, 1) := by decide +kernel
theorem d_Mo_isRight_107 : decode prog_13_method_86_code 107 = .ok (.aload_n 0, 1) := by decide +kernel
theorem d_Mo_isRight_108 : decode prog_13_method_86_code 108 = .ok (.iload_n 1, 1) := by decide +kernel
theorem d_Mo_isRight_109 : decode prog_13_method_86_code 109 = .ok (.iconst 1, 1) := by decide +kernel
theorem d_Mo_isRight_110 : decode prog_13_method_86_code 110 = .ok (.invokevirtual 246, 3) := by decide +kernel
theorem d_Mo_isRight_113 : decode prog_13_method_86_code 113 = .ok (.if_icmp .ne 11, 3) := by decide +kernel
theorem d_Mo_isRight_116 : decode prog_13_method_86_code 116 = .ok (.aload_n 0, 1) := by decide +kernel
theorem d_Mo_isRight_117 : decode prog_13_method_86_code 117 = .ok (.iload_n 1, 1) := by decide +kernel
theorem d_Mo_isRight_118 : decode prog_13_method_86_code 118 = .ok (.invokevirtual 347, 3) := by decide +kernel
theorem d_Mo_isRight_121 : decode prog_13_method_86_code 121 = .ok (.ifCond .ge 5, 3) := by decide +kernel
theorem d_Mo_isRight_124 : decode prog_13_method_86_code 124 = .ok (.iconst 0, 1) := by decide +kernel
theorem d_Mo_isRight_125 : decode prog_13_method_86_code 125 = .ok (.ireturn, 1) := by decide +kernel
theorem d_Mo_isRight_126 : decode prog_13_method_86_code 126 = .ok (.iinc 1 1, 3) := by decide +kernel
theorem d_Mo_isRight_129 : decode prog_13_method_86_code 129 = .ok (.goto (-122), 3) := by decide +kernel
theorem d_Mo_isRight_132 : decode prog_13_method_86_code 132 = .ok (.iconst 1, 1) := by decide +kernel
theorem d_Mo_isRight_133 : decode prog_13_method_86_code 133 = .ok (.ireturn, 1) := by decide +kernel
def wp_Mo_isRight_b126  (k7 : Int32 → sx_M → sx_L → Prop) (Q : Int32 → sx_M → sx_L → Prop) (v1 : Int32) (σ : sx_M) (τ : sx_L) : Prop := k7 (v1 + 1) σ τ
def wp_Mo_isRight_b124   (Q : Int32 → sx_M → sx_L → Prop)  (σ : sx_M) (τ : sx_L) : Prop := Q 0 σ τ
def wp_Mo_isRight_b7   (Q : Int32 → sx_M → sx_L → Prop) : Nat → Int32 → sx_M → sx_L → Prop
  | 0, _, _, _ => False
  | f + 1, v1, σ, τ => vp_in (σ 50 0 0 17) 2 ∧ (if σ 58 0 0 (σ 50 0 0 17).toNatClampNeg ≤ v1 then (Q 1 σ τ) else (wp_Mo_isOn v1 σ τ (fun r3 σ3 τ3 => if r3 = 0 then (wp_Mo_isRight_b126 (wp_Mo_isRight_b7 Q f) Q v1 σ3 τ3) else (wp_Mo_of v1 (0 : Int32) σ3 τ3 (fun r5 σ5 τ5 => wp_Mo_of (0 : Int32) (0 : Int32) σ5 τ5 (fun r6 σ6 τ6 => if r5 = r6 then (vp_in v1 7 ∧ (if σ6 74 0 0 v1.toNatClampNeg = 9999 then (wp_Mo_of v1 (1 : Int32) σ6 τ6 (fun r20 σ20 τ20 => if r20 = 9999 then (wp_Mo_isRight_b126 (wp_Mo_isRight_b7 Q f) Q v1 σ20 τ20) else (Q 0 σ20 τ20))) else (wp_Mo_of v1 (2 : Int32) σ6 τ6 (fun r10 σ10 τ10 => if r10 < 0 then (wp_Mo_isRight_b124 Q σ10 τ10) else (wp_Mo_areNear v1 r10 σ10 τ10 (fun r12 σ12 τ12 => if r12 = 0 then (wp_Mo_isRight_b124 Q σ12 τ12) else (wp_Mo_of r10 (1 : Int32) σ12 τ12 (fun r14 σ14 τ14 => wp_Mo_stepTo v1 r10 σ14 τ14 (fun r15 σ15 τ15 => wp_Mo_of v1 (1 : Int32) σ15 τ15 (fun r16 σ16 τ16 => if r14 + r15 = r16 then (wp_Mo_above v1 σ16 τ16 (fun r18 σ18 τ18 => if 0 ≤ r18 then (wp_Mo_isRight_b126 (wp_Mo_isRight_b7 Q f) Q v1 σ18 τ18) else (wp_Mo_isRight_b124 Q σ18 τ18))) else (wp_Mo_isRight_b124 Q σ16 τ16))))))))))) else (Q 0 σ6 τ6)))))))
def wp_Mo_isRight  (σ : sx_M) (τ : sx_L) (Q : Int32 → sx_M → sx_L → Prop) : Prop := wp_Mo_finds (-1 : Int32) σ τ (fun σ22 τ22 => ∃ f7, wp_Mo_isRight_b7 Q f7 1 σ22 τ22)
abbrev rm_Mo_isRight : Room := { frames := 3, cells := 0, slots := 0, locals := 70 }
set_option maxRecDepth 100000 in
set_option maxHeartbeats 4000000 in
theorem g_Mo_isRight_b126 {l : Launch} {K : sx_K} {X : sx_T}  {k7 : Int32 → sx_M → sx_L → Prop} {Q : Int32 → sx_M → sx_L → Prop} (hX : sx_C X K prog_13_method_86_code 3 "SensorTreeModel" (some .boolean) rm_Mo_isRight l) (hK : kx_F K) (hE : sx_E X K (sx_Qi K Q))  (hk7 : ∀ (v1 : Int32) (σ : sx_M) (τ : sx_L) , k7 v1 σ τ → sx_G X K 3 7 [(0, .ref (K.2.2.1 50 0 0)), (1, .int v1)] [] (sx_H K σ τ)) (v1 : Int32) (σ : sx_M) (τ : sx_L)  (h : wp_Mo_isRight_b126 k7 Q  v1 σ τ) : sx_G X K 3 126 [(0, .ref (K.2.2.1 50 0 0)), (1, .int v1)] [] (sx_H K σ τ) := by
  unfold wp_Mo_isRight_b126 at h
  refine sx_iinc (pc2 := 129) hX 1 _ [(0, .ref (K.2.2.1 50 0 0)), (1, .int (v1 + 1))] [1, 0] d_Mo_isRight_126 rfl (v1 + 1) rfl (by decide) rfl rfl rfl ?_
  refine sx_goto (tgt := 7) hX d_Mo_isRight_129 (by decide) ?_
  exact hk7 (v1 + 1) _ _ h
set_option maxRecDepth 100000 in
set_option maxHeartbeats 4000000 in
theorem g_Mo_isRight_b124 {l : Launch} {K : sx_K} {X : sx_T}   {Q : Int32 → sx_M → sx_L → Prop} (hX : sx_C X K prog_13_method_86_code 3 "SensorTreeModel" (some .boolean) rm_Mo_isRight l) (hK : kx_F K) (hE : sx_E X K (sx_Qi K Q))   (σ : sx_M) (τ : sx_L)  (h : wp_Mo_isRight_b124 Q  σ τ) : sx_G X K 3 124 [] [] (sx_H K σ τ) := by
  unfold wp_Mo_isRight_b124 at h
  refine sx_iconst (v := 0) (pc2 := 125) hX d_Mo_isRight_124 (by decide) rfl ?_
  exact sx_zret hX hE (by decide) h d_Mo_isRight_125
set_option maxRecDepth 100000 in
set_option maxHeartbeats 4000000 in
theorem g_Mo_isRight_b7 {l : Launch} {K : sx_K} {X : sx_T}   {Q : Int32 → sx_M → sx_L → Prop} (hX : sx_C X K prog_13_method_86_code 3 "SensorTreeModel" (some .boolean) rm_Mo_isRight l) (hK : kx_F K) (hE : sx_E X K (sx_Qi K Q))  : ∀ (f : Nat) (v1 : Int32) (σ : sx_M) (τ : sx_L) , wp_Mo_isRight_b7 Q f v1 σ τ → sx_G X K 3 7 [(0, .ref (K.2.2.1 50 0 0)), (1, .int v1)] [] (sx_H K σ τ) := by
  intro f
  induction f with
  | zero => intro v1 σ τ h; exact (show False from h).elim
  | succ f ih =>
    intro v1 σ τ h
    rw [wp_Mo_isRight_b7] at h
    refine sx_iload_n (pc2 := 8) hX 1 d_Mo_isRight_7 rfl rfl rfl ?_
    refine sx_aload_n (pc2 := 9) hX 0 d_Mo_isRight_8 rfl rfl rfl ?_
    refine fg_Mo_40 (pc2 := 12) hX (kr_50 hK) d_Mo_isRight_9 rfl ?_
    refine sx_aload_n (pc2 := 13) hX 0 d_Mo_isRight_12 rfl rfl rfl ?_
    refine fg_Mo_170 (pc2 := 16) hX (kr_50 hK) d_Mo_isRight_13 rfl ?_
    obtain ⟨hc1, h⟩ := h
    refine sx_iald (pc2 := 17) hX (kr_58 hK) rfl hc1 d_Mo_isRight_16 rfl ?_
    refine sx_icmp_ge (tgt := 132) (pc2 := 20) hX d_Mo_isRight_17 (by decide) rfl (fun hc2 => ?_) (fun hc2 => ?_)
    · replace h := sx_t h hc2
      refine sx_iconst (v := 1) (pc2 := 133) hX d_Mo_isRight_132 (by decide) rfl ?_
      exact sx_zret hX hE (by decide) h d_Mo_isRight_133
    · replace h := sx_f h hc2
      refine sx_aload_n (pc2 := 21) hX 0 d_Mo_isRight_20 rfl rfl rfl ?_
      refine sx_iload_n (pc2 := 22) hX 1 d_Mo_isRight_21 rfl rfl rfl ?_
      refine cl_Mo_252 (pc2 := 25) hX hK h  ⟨Nat.le_of_ble_eq_true rfl, Nat.le_of_ble_eq_true rfl⟩ (Nat.le_of_ble_eq_true rfl) d_Mo_isRight_22 rfl (fun r3 σ3 τ3 h => ?_)
      refine sx_if_ne (tgt := 31) (pc2 := 28) hX d_Mo_isRight_25 (by decide) rfl (fun hc4 => ?_) (fun hc4 => ?_)
      · replace h := sx_f h hc4
        refine sx_aload_n (pc2 := 32) hX 0 d_Mo_isRight_31 rfl rfl rfl ?_
        refine sx_iload_n (pc2 := 33) hX 1 d_Mo_isRight_32 rfl rfl rfl ?_
        refine sx_iconst (v := 0) (pc2 := 34) hX d_Mo_isRight_33 (by decide) rfl ?_
        refine cl_Mo_246 (pc2 := 37) hX hK h  ⟨Nat.le_of_ble_eq_true rfl, Nat.le_of_ble_eq_true rfl⟩ (Nat.le_of_ble_eq_true rfl) d_Mo_isRight_34 rfl (fun r5 σ5 τ5 h => ?_)
        refine sx_aload_n (pc2 := 38) hX 0 d_Mo_isRight_37 rfl rfl rfl ?_
        refine sx_iconst (v := 0) (pc2 := 39) hX d_Mo_isRight_38 (by decide) rfl ?_
        refine sx_iconst (v := 0) (pc2 := 40) hX d_Mo_isRight_39 (by decide) rfl ?_
        refine cl_Mo_246 (pc2 := 43) hX hK h  ⟨Nat.le_of_ble_eq_true rfl, Nat.le_of_ble_eq_true rfl⟩ (Nat.le_of_ble_eq_true rfl) d_Mo_isRight_40 rfl (fun r6 σ6 τ6 h => ?_)
        refine sx_icmp_eq (tgt := 48) (pc2 := 46) hX d_Mo_isRight_43 (by decide) rfl (fun hc7 => ?_) (fun hc7 => ?_)
        · replace h := sx_t h hc7
          refine sx_aload_n (pc2 := 49) hX 0 d_Mo_isRight_48 rfl rfl rfl ?_
          refine fg_Mo_89 (pc2 := 52) hX (kr_50 hK) d_Mo_isRight_49 rfl ?_
          refine sx_iload_n (pc2 := 53) hX 1 d_Mo_isRight_52 rfl rfl rfl ?_
          obtain ⟨hc8, h⟩ := h
          refine sx_iald (pc2 := 54) hX (kr_74 hK) rfl hc8 d_Mo_isRight_53 rfl ?_
          refine sx_sipush (v := 9999) (pc2 := 57) hX d_Mo_isRight_54 (by decide) rfl ?_
          refine sx_icmp_ne (tgt := 74) (pc2 := 60) hX d_Mo_isRight_57 (by decide) rfl (fun hc9 => ?_) (fun hc9 => ?_)
          · replace h := sx_f h hc9
            refine sx_aload_n (pc2 := 75) hX 0 d_Mo_isRight_74 rfl rfl rfl ?_
            refine sx_iload_n (pc2 := 76) hX 1 d_Mo_isRight_75 rfl rfl rfl ?_
            refine sx_iconst (v := 2) (pc2 := 77) hX d_Mo_isRight_76 (by decide) rfl ?_
            refine cl_Mo_246 (pc2 := 80) hX hK h  ⟨Nat.le_of_ble_eq_true rfl, Nat.le_of_ble_eq_true rfl⟩ (Nat.le_of_ble_eq_true rfl) d_Mo_isRight_77 rfl (fun r10 σ10 τ10 h => ?_)
            refine sx_istore_n (pc2 := 81) hX _ [(0, .ref (K.2.2.1 50 0 0)), (1, .int v1), (2, .int r10)] [1, 2, 0] d_Mo_isRight_80 rfl (by decide) rfl rfl rfl ?_
            refine sx_iload_n (pc2 := 82) hX 2 d_Mo_isRight_81 rfl rfl rfl ?_
            refine sx_if_lt (tgt := 124) (pc2 := 85) hX d_Mo_isRight_82 (by decide) rfl (fun hc11 => ?_) (fun hc11 => ?_)
            · replace h := sx_t h hc11
              refine sx_sub [] [] rfl ?_
              exact g_Mo_isRight_b124 hX hK hE   _ _ h
            · replace h := sx_f h hc11
              refine sx_aload_n (pc2 := 86) hX 0 d_Mo_isRight_85 rfl rfl rfl ?_
              refine sx_iload_n (pc2 := 87) hX 1 d_Mo_isRight_86 rfl rfl rfl ?_
              refine sx_iload_n (pc2 := 88) hX 2 d_Mo_isRight_87 rfl rfl rfl ?_
              refine cl_Mo_258 (pc2 := 91) hX hK h  ⟨Nat.le_of_ble_eq_true rfl, Nat.le_of_ble_eq_true rfl⟩ (Nat.le_of_ble_eq_true rfl) d_Mo_isRight_88 rfl (fun r12 σ12 τ12 h => ?_)
              refine sx_if_eq (tgt := 124) (pc2 := 94) hX d_Mo_isRight_91 (by decide) rfl (fun hc13 => ?_) (fun hc13 => ?_)
              · replace h := sx_t h hc13
                refine sx_sub [] [] rfl ?_
                exact g_Mo_isRight_b124 hX hK hE   _ _ h
              · replace h := sx_f h hc13
                refine sx_aload_n (pc2 := 95) hX 0 d_Mo_isRight_94 rfl rfl rfl ?_
                refine sx_iload_n (pc2 := 96) hX 2 d_Mo_isRight_95 rfl rfl rfl ?_
                refine sx_iconst (v := 1) (pc2 := 97) hX d_Mo_isRight_96 (by decide) rfl ?_
                refine cl_Mo_246 (pc2 := 100) hX hK h  ⟨Nat.le_of_ble_eq_true rfl, Nat.le_of_ble_eq_true rfl⟩ (Nat.le_of_ble_eq_true rfl) d_Mo_isRight_97 rfl (fun r14 σ14 τ14 h => ?_)
                refine sx_aload_n (pc2 := 101) hX 0 d_Mo_isRight_100 rfl rfl rfl ?_
                refine sx_iload_n (pc2 := 102) hX 1 d_Mo_isRight_101 rfl rfl rfl ?_
                refine sx_iload_n (pc2 := 103) hX 2 d_Mo_isRight_102 rfl rfl rfl ?_
                refine cl_Mo_284 (pc2 := 106) hX hK h  ⟨Nat.le_of_ble_eq_true rfl, Nat.le_of_ble_eq_true rfl⟩ (Nat.le_of_ble_eq_true rfl) d_Mo_isRight_103 rfl (fun r15 σ15 τ15 h => ?_)
                refine sx_iadd (pc2 := 107) hX d_Mo_isRight_106 rfl ?_
                refine sx_aload_n (pc2 := 108) hX 0 d_Mo_isRight_107 rfl rfl rfl ?_
                refine sx_iload_n (pc2 := 109) hX 1 d_Mo_isRight_108 rfl rfl rfl ?_
                refine sx_iconst (v := 1) (pc2 := 110) hX d_Mo_isRight_109 (by decide) rfl ?_
                refine cl_Mo_246 (pc2 := 113) hX hK h  ⟨Nat.le_of_ble_eq_true rfl, Nat.le_of_ble_eq_true rfl⟩ (Nat.le_of_ble_eq_true rfl) d_Mo_isRight_110 rfl (fun r16 σ16 τ16 h => ?_)
                refine sx_icmp_ne (tgt := 124) (pc2 := 116) hX d_Mo_isRight_113 (by decide) rfl (fun hc17 => ?_) (fun hc17 => ?_)
                · replace h := sx_f h hc17
                  refine sx_sub [] [] rfl ?_
                  exact g_Mo_isRight_b124 hX hK hE   _ _ h
                · replace h := sx_t h hc17
                  refine sx_aload_n (pc2 := 117) hX 0 d_Mo_isRight_116 rfl rfl rfl ?_
                  refine sx_iload_n (pc2 := 118) hX 1 d_Mo_isRight_117 rfl rfl rfl ?_
                  refine cl_Mo_347 (pc2 := 121) hX hK h  ⟨Nat.le_of_ble_eq_true rfl, Nat.le_of_ble_eq_true rfl⟩ (Nat.le_of_ble_eq_true rfl) d_Mo_isRight_118 rfl (fun r18 σ18 τ18 h => ?_)
                  refine sx_if_ge (tgt := 126) (pc2 := 124) hX d_Mo_isRight_121 (by decide) rfl (fun hc19 => ?_) (fun hc19 => ?_)
                  · replace h := sx_t h hc19
                    refine sx_sub [(0, .ref (K.2.2.1 50 0 0)), (1, .int v1)] [0, 1] rfl ?_
                    exact g_Mo_isRight_b126 hX hK hE  ih v1 _ _ h
                  · replace h := sx_f h hc19
                    refine sx_sub [] [] rfl ?_
                    exact g_Mo_isRight_b124 hX hK hE   _ _ h
          · replace h := sx_t h hc9
            refine sx_aload_n (pc2 := 61) hX 0 d_Mo_isRight_60 rfl rfl rfl ?_
            refine sx_iload_n (pc2 := 62) hX 1 d_Mo_isRight_61 rfl rfl rfl ?_
            refine sx_iconst (v := 1) (pc2 := 63) hX d_Mo_isRight_62 (by decide) rfl ?_
            refine cl_Mo_246 (pc2 := 66) hX hK h  ⟨Nat.le_of_ble_eq_true rfl, Nat.le_of_ble_eq_true rfl⟩ (Nat.le_of_ble_eq_true rfl) d_Mo_isRight_63 rfl (fun r20 σ20 τ20 h => ?_)
            refine sx_sipush (v := 9999) (pc2 := 69) hX d_Mo_isRight_66 (by decide) rfl ?_
            refine sx_icmp_eq (tgt := 126) (pc2 := 72) hX d_Mo_isRight_69 (by decide) rfl (fun hc21 => ?_) (fun hc21 => ?_)
            · replace h := sx_t h hc21
              exact g_Mo_isRight_b126 hX hK hE  ih v1 _ _ h
            · replace h := sx_f h hc21
              refine sx_iconst (v := 0) (pc2 := 73) hX d_Mo_isRight_72 (by decide) rfl ?_
              exact sx_zret hX hE (by decide) h d_Mo_isRight_73
        · replace h := sx_f h hc7
          refine sx_iconst (v := 0) (pc2 := 47) hX d_Mo_isRight_46 (by decide) rfl ?_
          exact sx_zret hX hE (by decide) h d_Mo_isRight_47
      · replace h := sx_t h hc4
        refine sx_goto (tgt := 126) hX d_Mo_isRight_28 (by decide) ?_
        exact g_Mo_isRight_b126 hX hK hE  ih v1 _ _ h
set_option maxRecDepth 100000 in
set_option maxHeartbeats 4000000 in
theorem c_Mo_isRight {l : Launch} {K : sx_K} (hK : kx_F K)  (σ : sx_M) (τ : sx_L) (Q : Int32 → sx_M → sx_L → Prop)  (h : wp_Mo_isRight σ τ Q) : Met l y_Mo_isRight (sx_wd y_Mo_isRight prog_13_method_86_code 3 (some .boolean)) rm_Mo_isRight (sx_Pc K [.ref (K.2.2.1 50 0 0)] σ τ) (sx_Qi K Q) 0 0 (sx_A K) := by
  refine sx_met (by decide) (Nat.le_of_ble_eq_true rfl) (fun X hX hE => ?_)
  replace hX : sx_C X K prog_13_method_86_code 3 "SensorTreeModel" (some .boolean) rm_Mo_isRight l := hX
  show sx_G X K 3 0 [(0, .ref (K.2.2.1 50 0 0))] [] (sx_H K σ τ)
  unfold wp_Mo_isRight at h
  refine sx_aload_n (pc2 := 1) hX 0 d_Mo_isRight_0 rfl rfl rfl ?_
  refine sx_iconst (v := (-1)) (pc2 := 2) hX d_Mo_isRight_1 (by decide) rfl ?_
  refine cl_Mo_344 (pc2 := 5) hX hK h  ⟨Nat.le_of_ble_eq_true rfl, Nat.le_of_ble_eq_true rfl⟩ (Nat.le_of_ble_eq_true rfl) d_Mo_isRight_2 rfl (fun σ22 τ22 h => ?_)
  refine sx_iconst (v := 1) (pc2 := 6) hX d_Mo_isRight_5 (by decide) rfl ?_
  refine sx_istore_n (pc2 := 7) hX _ [(0, .ref (K.2.2.1 50 0 0)), (1, .int 1)] [1, 0] d_Mo_isRight_6 rfl (by decide) rfl rfl rfl ?_
  obtain ⟨f7, h⟩ := h
  exact g_Mo_isRight_b7 hX hK hE   f7 1 _ _ h
theorem cl_Mo_350 {X : sx_T} {K : sx_K} {cc : ByteArray} {nL : Nat} {ret : Option FieldType} {rm : Room} {l : Launch} {pc pc2 : Nat} {lv : List (Nat × Value)} {st : List Value} {σ : sx_M} {τ : sx_L}  {Q : Int32 → sx_M → sx_L → Prop} (hX : sx_C X K cc nL "SensorTreeModel" ret rm l) (hK : kx_F K) (h : wp_Mo_isRight  σ τ Q)  (hR : rm_Mo_isRight.frames + 1 ≤ rm.frames ∧ 8 + (3 + 11) + rm_Mo_isRight.locals ≤ rm.locals) (hst : (st.map fun v => v.category).sum ≤ 8) (hd : decode cc pc = .ok (.invokevirtual 350, 3)) (hpc : pc + 3 = pc2) (kk : ∀ (r : Int32) (σ2 : sx_M) (τ2 : sx_L), Q r σ2 τ2 → sx_G X K nL pc2 lv (.int r :: st) (sx_H K σ2 τ2)) : sx_G X K nL pc lv (.ref (K.2.2.1 50 0 0) :: st) (sx_H K σ τ) :=
  sx_callVi (Q := Q) (As := []) hX (c_Mo_isRight hK  σ τ Q  h) (kr_50 hK) rfl rfl lk_556 ls_91 hy_Mo_isRight lk_554 lk_364 lk_555 ⟨rfl, rfl⟩ hR hst rfl hd hpc kk
def y_Mo_right : MethodName := ⟨"SensorTreeModel", "right", "()I"⟩
theorem hy_Mo_right : y_Mo_right.cls ≠ "java/lang/invoke/MethodHandle" ∧ y_Mo_right.cls ≠ "java/lang/invoke/VarHandle" ∧ (parseMethodDescriptor y_Mo_right.desc).map (fun d => d.parameters.length) = some 0 := by decide +kernel
theorem d_Mo_right_0 : decode prog_13_method_87_code 0 = .ok (.aload_n 0, 1) := by decide +kernel
theorem d_Mo_right_1 : decode prog_13_method_87_code 1 = .ok (.invokevirtual 317, 3) := by decide +kernel
theorem d_Mo_right_4 : decode prog_13_method_87_code 4 = .ok (.aload_n 0, 1) := by decide +kernel
theorem d_Mo_right_5 : decode prog_13_method_87_code 5 = .ok (.invokevirtual 350, 3) := by decide +kernel
theorem d_Mo_right_8 : decode prog_13_method_87_code 8 = .ok (.ifCond .eq 7, 3) := by decide +kernel
theorem d_Mo_right_11 : decode prog_13_method_87_code 11 = .ok (.iconst 1, 1) := by decide +kernel
theorem d_Mo_right_12 : decode prog_13_method_87_code 12 = .ok (.goto 4, 3) := by decide +kernel
theorem d_Mo_right_15 : decode prog_13_method_87_code 15 = .ok (.iconst 0, 1) := by decide +kernel
theorem d_Mo_right_16 : decode prog_13_method_87_code 16 = .ok (.ireturn, 1) := by decide +kernel
def wp_Mo_right_b16   (Q : Int32 → sx_M → sx_L → Prop) (w0 : Int32) (σ : sx_M) (τ : sx_L) : Prop := Q w0 σ τ
def wp_Mo_right  (σ : sx_M) (τ : sx_L) (Q : Int32 → sx_M → sx_L → Prop) : Prop := wp_Mo_copies σ τ (fun σ1 τ1 => wp_Mo_isRight σ1 τ1 (fun r2 σ2 τ2 => if r2 = 0 then (wp_Mo_right_b16 Q 0 σ2 τ2) else (wp_Mo_right_b16 Q 1 σ2 τ2)))
abbrev rm_Mo_right : Room := { frames := 4, cells := 0, slots := 0, locals := 92 }
set_option maxRecDepth 100000 in
set_option maxHeartbeats 4000000 in
theorem g_Mo_right_b16 {l : Launch} {K : sx_K} {X : sx_T}   {Q : Int32 → sx_M → sx_L → Prop} (hX : sx_C X K prog_13_method_87_code 1 "SensorTreeModel" (some .int) rm_Mo_right l) (hK : kx_F K) (hE : sx_E X K (sx_Qi K Q))  (w0 : Int32) (σ : sx_M) (τ : sx_L)  (h : wp_Mo_right_b16 Q  w0 σ τ) : sx_G X K 1 16 [] [.int w0] (sx_H K σ τ) := by
  unfold wp_Mo_right_b16 at h
  exact sx_iret hX hE h d_Mo_right_16
set_option maxRecDepth 100000 in
set_option maxHeartbeats 4000000 in
theorem c_Mo_right {l : Launch} {K : sx_K} (hK : kx_F K)  (σ : sx_M) (τ : sx_L) (Q : Int32 → sx_M → sx_L → Prop)  (h : wp_Mo_right σ τ Q) : Met l y_Mo_right (sx_wd y_Mo_right prog_13_method_87_code 1 (some .int)) rm_Mo_right (sx_Pc K [.ref (K.2.2.1 50 0 0)] σ τ) (sx_Qi K Q) 0 0 (sx_A K) := by
  refine sx_met (by decide) (Nat.le_of_ble_eq_true rfl) (fun X hX hE => ?_)
  replace hX : sx_C X K prog_13_method_87_code 1 "SensorTreeModel" (some .int) rm_Mo_right l := hX
  show sx_G X K 1 0 [(0, .ref (K.2.2.1 50 0 0))] [] (sx_H K σ τ)
  unfold wp_Mo_right at h
  refine sx_aload_n (pc2 := 1) hX 0 d_Mo_right_0 rfl rfl rfl ?_
  refine cl_Mo_317 (pc2 := 4) hX hK h  ⟨Nat.le_of_ble_eq_true rfl, Nat.le_of_ble_eq_true rfl⟩ (Nat.le_of_ble_eq_true rfl) d_Mo_right_1 rfl (fun σ1 τ1 h => ?_)
  refine sx_aload_n (pc2 := 5) hX 0 d_Mo_right_4 rfl rfl rfl ?_
  refine cl_Mo_350 (pc2 := 8) hX hK h  ⟨Nat.le_of_ble_eq_true rfl, Nat.le_of_ble_eq_true rfl⟩ (Nat.le_of_ble_eq_true rfl) d_Mo_right_5 rfl (fun r2 σ2 τ2 h => ?_)
  refine sx_if_eq (tgt := 15) (pc2 := 11) hX d_Mo_right_8 (by decide) rfl (fun hc3 => ?_) (fun hc3 => ?_)
  · replace h := sx_t h hc3
    refine sx_iconst (v := 0) (pc2 := 16) hX d_Mo_right_15 (by decide) rfl ?_
    refine sx_sub [] [] rfl ?_
    exact g_Mo_right_b16 hX hK hE   0 _ _ h
  · replace h := sx_f h hc3
    refine sx_iconst (v := 1) (pc2 := 12) hX d_Mo_right_11 (by decide) rfl ?_
    refine sx_goto (tgt := 16) hX d_Mo_right_12 (by decide) ?_
    refine sx_sub [] [] rfl ?_
    exact g_Mo_right_b16 hX hK hE   1 _ _ h
def y_Mo_doesCome : MethodName := ⟨"SensorTreeModel", "doesCome", "(II)Z"⟩
theorem hy_Mo_doesCome : y_Mo_doesCome.cls ≠ "java/lang/invoke/MethodHandle" ∧ y_Mo_doesCome.cls ≠ "java/lang/invoke/VarHandle" ∧ (parseMethodDescriptor y_Mo_doesCome.desc).map (fun d => d.parameters.length) = some 2 := by decide +kernel
theorem d_Mo_doesCome_0 : decode prog_13_method_88_code 0 = .ok (.aload_n 0, 1) := by decide +kernel
theorem d_Mo_doesCome_1 : decode prog_13_method_88_code 1 = .ok (.iload_n 1, 1) := by decide +kernel
theorem d_Mo_doesCome_2 : decode prog_13_method_88_code 2 = .ok (.iconst 2, 1) := by decide +kernel
theorem d_Mo_doesCome_3 : decode prog_13_method_88_code 3 = .ok (.invokevirtual 338, 3) := by decide +kernel
theorem d_Mo_doesCome_6 : decode prog_13_method_88_code 6 = .ok (.istore_n 3, 1) := by decide +kernel
theorem d_Mo_doesCome_7 : decode prog_13_method_88_code 7 = .ok (.iconst 0, 1) := by decide +kernel
theorem d_Mo_doesCome_8 : decode prog_13_method_88_code 8 = .ok (.istore 4, 2) := by decide +kernel
theorem d_Mo_doesCome_10 : decode prog_13_method_88_code 10 = .ok (.iload 4, 2) := by decide +kernel
theorem d_Mo_doesCome_12 : decode prog_13_method_88_code 12 = .ok (.bipush 7, 2) := by decide +kernel
theorem d_Mo_doesCome_14 : decode prog_13_method_88_code 14 = .ok (.if_icmp .ge 27, 3) := by decide +kernel
theorem d_Mo_doesCome_17 : decode prog_13_method_88_code 17 = .ok (.iload_n 3, 1) := by decide +kernel
theorem d_Mo_doesCome_18 : decode prog_13_method_88_code 18 = .ok (.ifCond .lt 23, 3) := by decide +kernel
theorem d_Mo_doesCome_21 : decode prog_13_method_88_code 21 = .ok (.iload_n 3, 1) := by decide +kernel
theorem d_Mo_doesCome_22 : decode prog_13_method_88_code 22 = .ok (.iload_n 2, 1) := by decide +kernel
theorem d_Mo_doesCome_23 : decode prog_13_method_88_code 23 = .ok (.if_icmp .ne 5, 3) := by decide +kernel
theorem d_Mo_doesCome_26 : decode prog_13_method_88_code 26 = .ok (.iconst 1, 1) := by decide +kernel
theorem d_Mo_doesCome_27 : decode prog_13_method_88_code 27 = .ok (.ireturn, 1) := by decide +kernel
theorem d_Mo_doesCome_28 : decode prog_13_method_88_code 28 = .ok (.aload_n 0, 1) := by decide +kernel
theorem d_Mo_doesCome_29 : decode prog_13_method_88_code 29 = .ok (.iload_n 3, 1) := by decide +kernel
theorem d_Mo_doesCome_30 : decode prog_13_method_88_code 30 = .ok (.iconst 2, 1) := by decide +kernel
theorem d_Mo_doesCome_31 : decode prog_13_method_88_code 31 = .ok (.invokevirtual 338, 3) := by decide +kernel
theorem d_Mo_doesCome_34 : decode prog_13_method_88_code 34 = .ok (.istore_n 3, 1) := by decide +kernel
theorem d_Mo_doesCome_35 : decode prog_13_method_88_code 35 = .ok (.iinc 4 1, 3) := by decide +kernel
theorem d_Mo_doesCome_38 : decode prog_13_method_88_code 38 = .ok (.goto (-28), 3) := by decide +kernel
theorem d_Mo_doesCome_41 : decode prog_13_method_88_code 41 = .ok (.iconst 0, 1) := by decide +kernel
theorem d_Mo_doesCome_42 : decode prog_13_method_88_code 42 = .ok (.ireturn, 1) := by decide +kernel
def wp_Mo_doesCome_b41   (Q : Int32 → sx_M → sx_L → Prop)  (σ : sx_M) (τ : sx_L) : Prop := Q 0 σ τ
def wp_Mo_doesCome_b10   (Q : Int32 → sx_M → sx_L → Prop) : Nat → Int32 → Int32 → Int32 → sx_M → sx_L → Prop
  | 0, _, _, _, _, _ => False
  | f + 1, v2, v3, v4, σ, τ => if 7 ≤ v4 then (wp_Mo_doesCome_b41 Q σ τ) else (if v3 < 0 then (wp_Mo_doesCome_b41 Q σ τ) else (if v3 = v2 then (Q 1 σ τ) else (wp_Mo_nowOf v3 (2 : Int32) σ τ (fun r4 σ4 τ4 => wp_Mo_doesCome_b10 Q f v2 r4 (v4 + 1) σ4 τ4))))
def wp_Mo_doesCome (x1 : Int32) (x2 : Int32) (σ : sx_M) (τ : sx_L) (Q : Int32 → sx_M → sx_L → Prop) : Prop := wp_Mo_nowOf x1 (2 : Int32) σ τ (fun r5 σ5 τ5 => ∃ f10, wp_Mo_doesCome_b10 Q f10 x2 r5 0 σ5 τ5)
abbrev rm_Mo_doesCome : Room := { frames := 1, cells := 0, slots := 0, locals := 22 }
set_option maxRecDepth 100000 in
set_option maxHeartbeats 4000000 in
theorem g_Mo_doesCome_b41 {l : Launch} {K : sx_K} {X : sx_T}   {Q : Int32 → sx_M → sx_L → Prop} (hX : sx_C X K prog_13_method_88_code 5 "SensorTreeModel" (some .boolean) rm_Mo_doesCome l) (hK : kx_F K) (hE : sx_E X K (sx_Qi K Q))   (σ : sx_M) (τ : sx_L)  (h : wp_Mo_doesCome_b41 Q  σ τ) : sx_G X K 5 41 [] [] (sx_H K σ τ) := by
  unfold wp_Mo_doesCome_b41 at h
  refine sx_iconst (v := 0) (pc2 := 42) hX d_Mo_doesCome_41 (by decide) rfl ?_
  exact sx_zret hX hE (by decide) h d_Mo_doesCome_42
set_option maxRecDepth 100000 in
set_option maxHeartbeats 4000000 in
theorem g_Mo_doesCome_b10 {l : Launch} {K : sx_K} {X : sx_T}   {Q : Int32 → sx_M → sx_L → Prop} (hX : sx_C X K prog_13_method_88_code 5 "SensorTreeModel" (some .boolean) rm_Mo_doesCome l) (hK : kx_F K) (hE : sx_E X K (sx_Qi K Q))  : ∀ (f : Nat) (v2 : Int32) (v3 : Int32) (v4 : Int32) (σ : sx_M) (τ : sx_L) , wp_Mo_doesCome_b10 Q f v2 v3 v4 σ τ → sx_G X K 5 10 [(0, .ref (K.2.2.1 50 0 0)), (2, .int v2), (3, .int v3), (4, .int v4)] [] (sx_H K σ τ) := by
  intro f
  induction f with
  | zero => intro v2 v3 v4 σ τ h; exact (show False from h).elim
  | succ f ih =>
    intro v2 v3 v4 σ τ h
    rw [wp_Mo_doesCome_b10] at h
    refine sx_iload (pc2 := 12) hX 3 d_Mo_doesCome_10 rfl rfl ?_
    refine sx_bipush (v := 7) (pc2 := 14) hX d_Mo_doesCome_12 (by decide) rfl ?_
    refine sx_icmp_ge (tgt := 41) (pc2 := 17) hX d_Mo_doesCome_14 (by decide) rfl (fun hc1 => ?_) (fun hc1 => ?_)
    · replace h := sx_t h hc1
      refine sx_sub [] [] rfl ?_
      exact g_Mo_doesCome_b41 hX hK hE   _ _ h
    · replace h := sx_f h hc1
      refine sx_iload_n (pc2 := 18) hX 2 d_Mo_doesCome_17 rfl rfl rfl ?_
      refine sx_if_lt (tgt := 41) (pc2 := 21) hX d_Mo_doesCome_18 (by decide) rfl (fun hc2 => ?_) (fun hc2 => ?_)
      · replace h := sx_t h hc2
        refine sx_sub [] [] rfl ?_
        exact g_Mo_doesCome_b41 hX hK hE   _ _ h
      · replace h := sx_f h hc2
        refine sx_iload_n (pc2 := 22) hX 2 d_Mo_doesCome_21 rfl rfl rfl ?_
        refine sx_iload_n (pc2 := 23) hX 1 d_Mo_doesCome_22 rfl rfl rfl ?_
        refine sx_icmp_ne (tgt := 28) (pc2 := 26) hX d_Mo_doesCome_23 (by decide) rfl (fun hc3 => ?_) (fun hc3 => ?_)
        · replace h := sx_f h hc3
          refine sx_aload_n (pc2 := 29) hX 0 d_Mo_doesCome_28 rfl rfl rfl ?_
          refine sx_iload_n (pc2 := 30) hX 2 d_Mo_doesCome_29 rfl rfl rfl ?_
          refine sx_iconst (v := 2) (pc2 := 31) hX d_Mo_doesCome_30 (by decide) rfl ?_
          refine cl_Mo_338 (pc2 := 34) hX hK h  ⟨Nat.le_of_ble_eq_true rfl, Nat.le_of_ble_eq_true rfl⟩ (Nat.le_of_ble_eq_true rfl) d_Mo_doesCome_31 rfl (fun r4 σ4 τ4 h => ?_)
          refine sx_istore_n (pc2 := 35) hX _ [(0, .ref (K.2.2.1 50 0 0)), (2, .int v2), (3, .int r4), (4, .int v4)] [1, 2, 0, 3] d_Mo_doesCome_34 rfl (by decide) rfl rfl rfl ?_
          refine sx_iinc (pc2 := 38) hX 3 _ [(0, .ref (K.2.2.1 50 0 0)), (2, .int v2), (3, .int r4), (4, .int (v4 + 1))] [1, 2, 3, 0] d_Mo_doesCome_35 rfl (v4 + 1) rfl (by decide) rfl rfl rfl ?_
          refine sx_goto (tgt := 10) hX d_Mo_doesCome_38 (by decide) ?_
          exact ih v2 r4 (v4 + 1) _ _ h
        · replace h := sx_t h hc3
          refine sx_iconst (v := 1) (pc2 := 27) hX d_Mo_doesCome_26 (by decide) rfl ?_
          exact sx_zret hX hE (by decide) h d_Mo_doesCome_27
set_option maxRecDepth 100000 in
set_option maxHeartbeats 4000000 in
theorem c_Mo_doesCome {l : Launch} {K : sx_K} (hK : kx_F K) (x1 : Int32) (x2 : Int32) (σ : sx_M) (τ : sx_L) (Q : Int32 → sx_M → sx_L → Prop)  (h : wp_Mo_doesCome x1 x2 σ τ Q) : Met l y_Mo_doesCome (sx_wd y_Mo_doesCome prog_13_method_88_code 5 (some .boolean)) rm_Mo_doesCome (sx_Pc K [.ref (K.2.2.1 50 0 0), .int x1, .int x2] σ τ) (sx_Qi K Q) 0 0 (sx_A K) := by
  refine sx_met (by decide) (Nat.le_of_ble_eq_true rfl) (fun X hX hE => ?_)
  replace hX : sx_C X K prog_13_method_88_code 5 "SensorTreeModel" (some .boolean) rm_Mo_doesCome l := hX
  show sx_G X K 5 0 [(0, .ref (K.2.2.1 50 0 0)), (1, .int x1), (2, .int x2)] [] (sx_H K σ τ)
  unfold wp_Mo_doesCome at h
  refine sx_aload_n (pc2 := 1) hX 0 d_Mo_doesCome_0 rfl rfl rfl ?_
  refine sx_iload_n (pc2 := 2) hX 1 d_Mo_doesCome_1 rfl rfl rfl ?_
  refine sx_iconst (v := 2) (pc2 := 3) hX d_Mo_doesCome_2 (by decide) rfl ?_
  refine cl_Mo_338 (pc2 := 6) hX hK h  ⟨Nat.le_of_ble_eq_true rfl, Nat.le_of_ble_eq_true rfl⟩ (Nat.le_of_ble_eq_true rfl) d_Mo_doesCome_3 rfl (fun r5 σ5 τ5 h => ?_)
  refine sx_istore_n (pc2 := 7) hX _ [(0, .ref (K.2.2.1 50 0 0)), (1, .int x1), (2, .int x2), (3, .int r5)] [1, 2, 3, 0] d_Mo_doesCome_6 rfl (by decide) rfl rfl rfl ?_
  refine sx_iconst (v := 0) (pc2 := 8) hX d_Mo_doesCome_7 (by decide) rfl ?_
  refine sx_istore (pc2 := 10) hX _ [(0, .ref (K.2.2.1 50 0 0)), (1, .int x1), (2, .int x2), (3, .int r5), (4, .int 0)] [1, 2, 3, 4, 0] d_Mo_doesCome_8 (by decide) rfl rfl rfl ?_
  refine sx_sub [(0, .ref (K.2.2.1 50 0 0)), (2, .int x2), (3, .int r5), (4, .int 0)] [0, 2, 3, 4] rfl ?_
  obtain ⟨f10, h⟩ := h
  exact g_Mo_doesCome_b10 hX hK hE   f10 x2 r5 0 _ _ h
theorem cl_Mo_354 {X : sx_T} {K : sx_K} {cc : ByteArray} {nL : Nat} {ret : Option FieldType} {rm : Room} {l : Launch} {pc pc2 : Nat} {lv : List (Nat × Value)} {st : List Value} {σ : sx_M} {τ : sx_L} {x1 : Int32} {x2 : Int32} {Q : Int32 → sx_M → sx_L → Prop} (hX : sx_C X K cc nL "SensorTreeModel" ret rm l) (hK : kx_F K) (h : wp_Mo_doesCome x1 x2 σ τ Q)  (hR : rm_Mo_doesCome.frames + 1 ≤ rm.frames ∧ 8 + (5 + 11) + rm_Mo_doesCome.locals ≤ rm.locals) (hst : (st.map fun v => v.category).sum ≤ 8) (hd : decode cc pc = .ok (.invokevirtual 354, 3)) (hpc : pc + 3 = pc2) (kk : ∀ (r : Int32) (σ2 : sx_M) (τ2 : sx_L), Q r σ2 τ2 → sx_G X K nL pc2 lv (.int r :: st) (sx_H K σ2 τ2)) : sx_G X K nL pc lv (.int x2 :: .int x1 :: .ref (K.2.2.1 50 0 0) :: st) (sx_H K σ τ) :=
  sx_callVi (Q := Q) (As := [.int x1, .int x2]) hX (c_Mo_doesCome hK x1 x2 σ τ Q  h) (kr_50 hK) rfl rfl lk_559 ls_93 hy_Mo_doesCome lk_557 lk_364 lk_558 ⟨rfl, rfl⟩ hR hst rfl hd hpc kk
def y_Mo_circle : MethodName := ⟨"SensorTreeModel", "circle", "()I"⟩
theorem hy_Mo_circle : y_Mo_circle.cls ≠ "java/lang/invoke/MethodHandle" ∧ y_Mo_circle.cls ≠ "java/lang/invoke/VarHandle" ∧ (parseMethodDescriptor y_Mo_circle.desc).map (fun d => d.parameters.length) = some 0 := by decide +kernel
theorem d_Mo_circle_0 : decode prog_13_method_89_code 0 = .ok (.iconst 0, 1) := by decide +kernel
theorem d_Mo_circle_1 : decode prog_13_method_89_code 1 = .ok (.istore_n 1, 1) := by decide +kernel
theorem d_Mo_circle_2 : decode prog_13_method_89_code 2 = .ok (.iconst 0, 1) := by decide +kernel
theorem d_Mo_circle_3 : decode prog_13_method_89_code 3 = .ok (.istore_n 2, 1) := by decide +kernel
theorem d_Mo_circle_4 : decode prog_13_method_89_code 4 = .ok (.iload_n 2, 1) := by decide +kernel
theorem d_Mo_circle_5 : decode prog_13_method_89_code 5 = .ok (.aload_n 0, 1) := by decide +kernel
theorem d_Mo_circle_6 : decode prog_13_method_89_code 6 = .ok (.getfield 40, 3) := by decide +kernel
theorem d_Mo_circle_9 : decode prog_13_method_89_code 9 = .ok (.aload_n 0, 1) := by decide +kernel
theorem d_Mo_circle_10 : decode prog_13_method_89_code 10 = .ok (.getfield 170, 3) := by decide +kernel
theorem d_Mo_circle_13 : decode prog_13_method_89_code 13 = .ok (.iaload, 1) := by decide +kernel
theorem d_Mo_circle_14 : decode prog_13_method_89_code 14 = .ok (.if_icmp .ge 24, 3) := by decide +kernel
theorem d_Mo_circle_17 : decode prog_13_method_89_code 17 = .ok (.aload_n 0, 1) := by decide +kernel
theorem d_Mo_circle_18 : decode prog_13_method_89_code 18 = .ok (.iload_n 2, 1) := by decide +kernel
theorem d_Mo_circle_19 : decode prog_13_method_89_code 19 = .ok (.iload_n 2, 1) := by decide +kernel
theorem d_Mo_circle_20 : decode prog_13_method_89_code 20 = .ok (.invokevirtual 354, 3) := by decide +kernel
theorem d_Mo_circle_23 : decode prog_13_method_89_code 23 = .ok (.ifCond .eq 9, 3) := by decide +kernel
theorem d_Mo_circle_26 : decode prog_13_method_89_code 26 = .ok (.iload_n 1, 1) := by decide +kernel
theorem d_Mo_circle_27 : decode prog_13_method_89_code 27 = .ok (.iconst 1, 1) := by decide +kernel
theorem d_Mo_circle_28 : decode prog_13_method_89_code 28 = .ok (.iload_n 2, 1) := by decide +kernel
theorem d_Mo_circle_29 : decode prog_13_method_89_code 29 = .ok (.ishl, 1) := by decide +kernel
theorem d_Mo_circle_30 : decode prog_13_method_89_code 30 = .ok (.ior, 1) := by decide +kernel
theorem d_Mo_circle_31 : decode prog_13_method_89_code 31 = .ok (.istore_n 1, 1) := by decide +kernel
theorem d_Mo_circle_32 : decode prog_13_method_89_code 32 = .ok (.iinc 2 1, 3) := by decide +kernel
theorem d_Mo_circle_35 : decode prog_13_method_89_code 35 = .ok (.goto (-31), 3) := by decide +kernel
theorem d_Mo_circle_38 : decode prog_13_method_89_code 38 = .ok (.iload_n 1, 1) := by decide +kernel
theorem d_Mo_circle_39 : decode prog_13_method_89_code 39 = .ok (.ireturn, 1) := by decide +kernel
def wp_Mo_circle_b32  (k4 : Int32 → Int32 → sx_M → sx_L → Prop) (Q : Int32 → sx_M → sx_L → Prop) (v1 : Int32) (v2 : Int32) (σ : sx_M) (τ : sx_L) : Prop := k4 v1 (v2 + 1) σ τ
def wp_Mo_circle_b4   (Q : Int32 → sx_M → sx_L → Prop) : Nat → Int32 → Int32 → sx_M → sx_L → Prop
  | 0, _, _, _, _ => False
  | f + 1, v1, v2, σ, τ => vp_in (σ 50 0 0 17) 2 ∧ (if σ 58 0 0 (σ 50 0 0 17).toNatClampNeg ≤ v2 then (Q v1 σ τ) else (wp_Mo_doesCome v2 v2 σ τ (fun r3 σ3 τ3 => if r3 = 0 then (wp_Mo_circle_b32 (wp_Mo_circle_b4 Q f) Q v1 v2 σ3 τ3) else (wp_Mo_circle_b32 (wp_Mo_circle_b4 Q f) Q (v1 ||| (1 <<< (v2 &&& 31))) v2 σ3 τ3))))
def wp_Mo_circle  (σ : sx_M) (τ : sx_L) (Q : Int32 → sx_M → sx_L → Prop) : Prop := ∃ f4, wp_Mo_circle_b4 Q f4 0 0 σ τ
abbrev rm_Mo_circle : Room := { frames := 2, cells := 0, slots := 0, locals := 46 }
set_option maxRecDepth 100000 in
set_option maxHeartbeats 4000000 in
theorem g_Mo_circle_b32 {l : Launch} {K : sx_K} {X : sx_T}  {k4 : Int32 → Int32 → sx_M → sx_L → Prop} {Q : Int32 → sx_M → sx_L → Prop} (hX : sx_C X K prog_13_method_89_code 3 "SensorTreeModel" (some .int) rm_Mo_circle l) (hK : kx_F K) (hE : sx_E X K (sx_Qi K Q))  (hk4 : ∀ (v1 : Int32) (v2 : Int32) (σ : sx_M) (τ : sx_L) , k4 v1 v2 σ τ → sx_G X K 3 4 [(0, .ref (K.2.2.1 50 0 0)), (1, .int v1), (2, .int v2)] [] (sx_H K σ τ)) (v1 : Int32) (v2 : Int32) (σ : sx_M) (τ : sx_L)  (h : wp_Mo_circle_b32 k4 Q  v1 v2 σ τ) : sx_G X K 3 32 [(0, .ref (K.2.2.1 50 0 0)), (1, .int v1), (2, .int v2)] [] (sx_H K σ τ) := by
  unfold wp_Mo_circle_b32 at h
  refine sx_iinc (pc2 := 35) hX 2 _ [(0, .ref (K.2.2.1 50 0 0)), (1, .int v1), (2, .int (v2 + 1))] [1, 2, 0] d_Mo_circle_32 rfl (v2 + 1) rfl (by decide) rfl rfl rfl ?_
  refine sx_goto (tgt := 4) hX d_Mo_circle_35 (by decide) ?_
  exact hk4 v1 (v2 + 1) _ _ h
set_option maxRecDepth 100000 in
set_option maxHeartbeats 4000000 in
theorem g_Mo_circle_b4 {l : Launch} {K : sx_K} {X : sx_T}   {Q : Int32 → sx_M → sx_L → Prop} (hX : sx_C X K prog_13_method_89_code 3 "SensorTreeModel" (some .int) rm_Mo_circle l) (hK : kx_F K) (hE : sx_E X K (sx_Qi K Q))  : ∀ (f : Nat) (v1 : Int32) (v2 : Int32) (σ : sx_M) (τ : sx_L) , wp_Mo_circle_b4 Q f v1 v2 σ τ → sx_G X K 3 4 [(0, .ref (K.2.2.1 50 0 0)), (1, .int v1), (2, .int v2)] [] (sx_H K σ τ) := by
  intro f
  induction f with
  | zero => intro v1 v2 σ τ h; exact (show False from h).elim
  | succ f ih =>
    intro v1 v2 σ τ h
    rw [wp_Mo_circle_b4] at h
    refine sx_iload_n (pc2 := 5) hX 2 d_Mo_circle_4 rfl rfl rfl ?_
    refine sx_aload_n (pc2 := 6) hX 0 d_Mo_circle_5 rfl rfl rfl ?_
    refine fg_Mo_40 (pc2 := 9) hX (kr_50 hK) d_Mo_circle_6 rfl ?_
    refine sx_aload_n (pc2 := 10) hX 0 d_Mo_circle_9 rfl rfl rfl ?_
    refine fg_Mo_170 (pc2 := 13) hX (kr_50 hK) d_Mo_circle_10 rfl ?_
    obtain ⟨hc1, h⟩ := h
    refine sx_iald (pc2 := 14) hX (kr_58 hK) rfl hc1 d_Mo_circle_13 rfl ?_
    refine sx_icmp_ge (tgt := 38) (pc2 := 17) hX d_Mo_circle_14 (by decide) rfl (fun hc2 => ?_) (fun hc2 => ?_)
    · replace h := sx_t h hc2
      refine sx_iload_n (pc2 := 39) hX 1 d_Mo_circle_38 rfl rfl rfl ?_
      exact sx_iret hX hE h d_Mo_circle_39
    · replace h := sx_f h hc2
      refine sx_aload_n (pc2 := 18) hX 0 d_Mo_circle_17 rfl rfl rfl ?_
      refine sx_iload_n (pc2 := 19) hX 2 d_Mo_circle_18 rfl rfl rfl ?_
      refine sx_iload_n (pc2 := 20) hX 2 d_Mo_circle_19 rfl rfl rfl ?_
      refine cl_Mo_354 (pc2 := 23) hX hK h  ⟨Nat.le_of_ble_eq_true rfl, Nat.le_of_ble_eq_true rfl⟩ (Nat.le_of_ble_eq_true rfl) d_Mo_circle_20 rfl (fun r3 σ3 τ3 h => ?_)
      refine sx_if_eq (tgt := 32) (pc2 := 26) hX d_Mo_circle_23 (by decide) rfl (fun hc4 => ?_) (fun hc4 => ?_)
      · replace h := sx_t h hc4
        exact g_Mo_circle_b32 hX hK hE  ih v1 v2 _ _ h
      · replace h := sx_f h hc4
        refine sx_iload_n (pc2 := 27) hX 1 d_Mo_circle_26 rfl rfl rfl ?_
        refine sx_iconst (v := 1) (pc2 := 28) hX d_Mo_circle_27 (by decide) rfl ?_
        refine sx_iload_n (pc2 := 29) hX 2 d_Mo_circle_28 rfl rfl rfl ?_
        refine sx_ishl (pc2 := 30) hX d_Mo_circle_29 rfl ?_
        refine sx_ior (pc2 := 31) hX d_Mo_circle_30 rfl ?_
        refine sx_istore_n (pc2 := 32) hX _ [(0, .ref (K.2.2.1 50 0 0)), (1, .int (v1 ||| (1 <<< (v2 &&& 31)))), (2, .int v2)] [1, 0, 2] d_Mo_circle_31 rfl (by decide) rfl rfl rfl ?_
        exact g_Mo_circle_b32 hX hK hE  ih (v1 ||| (1 <<< (v2 &&& 31))) v2 _ _ h
set_option maxRecDepth 100000 in
set_option maxHeartbeats 4000000 in
theorem c_Mo_circle {l : Launch} {K : sx_K} (hK : kx_F K)  (σ : sx_M) (τ : sx_L) (Q : Int32 → sx_M → sx_L → Prop)  (h : wp_Mo_circle σ τ Q) : Met l y_Mo_circle (sx_wd y_Mo_circle prog_13_method_89_code 3 (some .int)) rm_Mo_circle (sx_Pc K [.ref (K.2.2.1 50 0 0)] σ τ) (sx_Qi K Q) 0 0 (sx_A K) := by
  refine sx_met (by decide) (Nat.le_of_ble_eq_true rfl) (fun X hX hE => ?_)
  replace hX : sx_C X K prog_13_method_89_code 3 "SensorTreeModel" (some .int) rm_Mo_circle l := hX
  show sx_G X K 3 0 [(0, .ref (K.2.2.1 50 0 0))] [] (sx_H K σ τ)
  unfold wp_Mo_circle at h
  refine sx_iconst (v := 0) (pc2 := 1) hX d_Mo_circle_0 (by decide) rfl ?_
  refine sx_istore_n (pc2 := 2) hX _ [(0, .ref (K.2.2.1 50 0 0)), (1, .int 0)] [1, 0] d_Mo_circle_1 rfl (by decide) rfl rfl rfl ?_
  refine sx_iconst (v := 0) (pc2 := 3) hX d_Mo_circle_2 (by decide) rfl ?_
  refine sx_istore_n (pc2 := 4) hX _ [(0, .ref (K.2.2.1 50 0 0)), (1, .int 0), (2, .int 0)] [1, 2, 0] d_Mo_circle_3 rfl (by decide) rfl rfl rfl ?_
  obtain ⟨f4, h⟩ := h
  exact g_Mo_circle_b4 hX hK hE   f4 0 0 _ _ h
def y_Mo_below : MethodName := ⟨"SensorTreeModel", "below", "(I)I"⟩
theorem hy_Mo_below : y_Mo_below.cls ≠ "java/lang/invoke/MethodHandle" ∧ y_Mo_below.cls ≠ "java/lang/invoke/VarHandle" ∧ (parseMethodDescriptor y_Mo_below.desc).map (fun d => d.parameters.length) = some 1 := by decide +kernel
theorem d_Mo_below_0 : decode prog_13_method_90_code 0 = .ok (.aload_n 0, 1) := by decide +kernel
theorem d_Mo_below_1 : decode prog_13_method_90_code 1 = .ok (.iload_n 1, 1) := by decide +kernel
theorem d_Mo_below_2 : decode prog_13_method_90_code 2 = .ok (.invokevirtual 311, 3) := by decide +kernel
theorem d_Mo_below_5 : decode prog_13_method_90_code 5 = .ok (.ifCond .ne 5, 3) := by decide +kernel
theorem d_Mo_below_8 : decode prog_13_method_90_code 8 = .ok (.iconst (-1), 1) := by decide +kernel
theorem d_Mo_below_9 : decode prog_13_method_90_code 9 = .ok (.ireturn, 1) := by decide +kernel
theorem d_Mo_below_10 : decode prog_13_method_90_code 10 = .ok (.iconst 0, 1) := by decide +kernel
theorem d_Mo_below_11 : decode prog_13_method_90_code 11 = .ok (.istore_n 2, 1) := by decide +kernel
theorem d_Mo_below_12 : decode prog_13_method_90_code 12 = .ok (.iconst 0, 1) := by decide +kernel
theorem d_Mo_below_13 : decode prog_13_method_90_code 13 = .ok (.istore_n 3, 1) := by decide +kernel
theorem d_Mo_below_14 : decode prog_13_method_90_code 14 = .ok (.iload_n 3, 1) := by decide +kernel
theorem d_Mo_below_15 : decode prog_13_method_90_code 15 = .ok (.aload_n 0, 1) := by decide +kernel
theorem d_Mo_below_16 : decode prog_13_method_90_code 16 = .ok (.getfield 40, 3) := by decide +kernel
theorem d_Mo_below_19 : decode prog_13_method_90_code 19 = .ok (.aload_n 0, 1) := by decide +kernel
theorem d_Mo_below_20 : decode prog_13_method_90_code 20 = .ok (.getfield 170, 3) := by decide +kernel
theorem d_Mo_below_23 : decode prog_13_method_90_code 23 = .ok (.iaload, 1) := by decide +kernel
theorem d_Mo_below_24 : decode prog_13_method_90_code 24 = .ok (.if_icmp .ge 29, 3) := by decide +kernel
theorem d_Mo_below_27 : decode prog_13_method_90_code 27 = .ok (.iload_n 3, 1) := by decide +kernel
theorem d_Mo_below_28 : decode prog_13_method_90_code 28 = .ok (.iload_n 1, 1) := by decide +kernel
theorem d_Mo_below_29 : decode prog_13_method_90_code 29 = .ok (.if_icmp .eq 18, 3) := by decide +kernel
theorem d_Mo_below_32 : decode prog_13_method_90_code 32 = .ok (.aload_n 0, 1) := by decide +kernel
theorem d_Mo_below_33 : decode prog_13_method_90_code 33 = .ok (.iload_n 3, 1) := by decide +kernel
theorem d_Mo_below_34 : decode prog_13_method_90_code 34 = .ok (.iload_n 1, 1) := by decide +kernel
theorem d_Mo_below_35 : decode prog_13_method_90_code 35 = .ok (.invokevirtual 354, 3) := by decide +kernel
theorem d_Mo_below_38 : decode prog_13_method_90_code 38 = .ok (.ifCond .eq 9, 3) := by decide +kernel
theorem d_Mo_below_41 : decode prog_13_method_90_code 41 = .ok (.iload_n 2, 1) := by decide +kernel
theorem d_Mo_below_42 : decode prog_13_method_90_code 42 = .ok (.iconst 1, 1) := by decide +kernel
theorem d_Mo_below_43 : decode prog_13_method_90_code 43 = .ok (.iload_n 3, 1) := by decide +kernel
theorem d_Mo_below_44 : decode prog_13_method_90_code 44 = .ok (.ishl, 1) := by decide +kernel
theorem d_Mo_below_45 : decode prog_13_method_90_code 45 = .ok (.ior, 1) := by decide +kernel
theorem d_Mo_below_46 : decode prog_13_method_90_code 46 = .ok (.istore_n 2, 1) := by decide +kernel
theorem d_Mo_below_47 : decode prog_13_method_90_code 47 = .ok (.iinc 3 1, 3) := by decide +kernel
theorem d_Mo_below_50 : decode prog_13_method_90_code 50 = .ok (.goto (-36), 3) := by decide +kernel
theorem d_Mo_below_53 : decode prog_13_method_90_code 53 = .ok (.iload_n 2, 1) := by decide +kernel
theorem d_Mo_below_54 : decode prog_13_method_90_code 54 = .ok (.ireturn, 1) := by decide +kernel
def wp_Mo_below_b47  (k14 : Int32 → Int32 → Int32 → sx_M → sx_L → Prop) (Q : Int32 → sx_M → sx_L → Prop) (v1 : Int32) (v2 : Int32) (v3 : Int32) (σ : sx_M) (τ : sx_L) : Prop := k14 v1 v2 (v3 + 1) σ τ
def wp_Mo_below_b14   (Q : Int32 → sx_M → sx_L → Prop) : Nat → Int32 → Int32 → Int32 → sx_M → sx_L → Prop
  | 0, _, _, _, _, _ => False
  | f + 1, v1, v2, v3, σ, τ => vp_in (σ 50 0 0 17) 2 ∧ (if σ 58 0 0 (σ 50 0 0 17).toNatClampNeg ≤ v3 then (Q v2 σ τ) else (if v3 = v1 then (wp_Mo_below_b47 (wp_Mo_below_b14 Q f) Q v1 v2 v3 σ τ) else (wp_Mo_doesCome v3 v1 σ τ (fun r4 σ4 τ4 => if r4 = 0 then (wp_Mo_below_b47 (wp_Mo_below_b14 Q f) Q v1 v2 v3 σ4 τ4) else (wp_Mo_below_b47 (wp_Mo_below_b14 Q f) Q v1 (v2 ||| (1 <<< (v3 &&& 31))) v3 σ4 τ4)))))
def wp_Mo_below (x1 : Int32) (σ : sx_M) (τ : sx_L) (Q : Int32 → sx_M → sx_L → Prop) : Prop := wp_Mo_isPost x1 σ τ (fun r6 σ6 τ6 => if r6 = 0 then (Q (-1) σ6 τ6) else (∃ f14, wp_Mo_below_b14 Q f14 x1 0 0 σ6 τ6))
abbrev rm_Mo_below : Room := { frames := 2, cells := 0, slots := 0, locals := 46 }
set_option maxRecDepth 100000 in
set_option maxHeartbeats 4000000 in
theorem g_Mo_below_b47 {l : Launch} {K : sx_K} {X : sx_T}  {k14 : Int32 → Int32 → Int32 → sx_M → sx_L → Prop} {Q : Int32 → sx_M → sx_L → Prop} (hX : sx_C X K prog_13_method_90_code 4 "SensorTreeModel" (some .int) rm_Mo_below l) (hK : kx_F K) (hE : sx_E X K (sx_Qi K Q))  (hk14 : ∀ (v1 : Int32) (v2 : Int32) (v3 : Int32) (σ : sx_M) (τ : sx_L) , k14 v1 v2 v3 σ τ → sx_G X K 4 14 [(0, .ref (K.2.2.1 50 0 0)), (1, .int v1), (2, .int v2), (3, .int v3)] [] (sx_H K σ τ)) (v1 : Int32) (v2 : Int32) (v3 : Int32) (σ : sx_M) (τ : sx_L)  (h : wp_Mo_below_b47 k14 Q  v1 v2 v3 σ τ) : sx_G X K 4 47 [(0, .ref (K.2.2.1 50 0 0)), (1, .int v1), (2, .int v2), (3, .int v3)] [] (sx_H K σ τ) := by
  unfold wp_Mo_below_b47 at h
  refine sx_iinc (pc2 := 50) hX 3 _ [(0, .ref (K.2.2.1 50 0 0)), (1, .int v1), (2, .int v2), (3, .int (v3 + 1))] [1, 2, 3, 0] d_Mo_below_47 rfl (v3 + 1) rfl (by decide) rfl rfl rfl ?_
  refine sx_goto (tgt := 14) hX d_Mo_below_50 (by decide) ?_
  exact hk14 v1 v2 (v3 + 1) _ _ h
set_option maxRecDepth 100000 in
set_option maxHeartbeats 4000000 in
theorem g_Mo_below_b14 {l : Launch} {K : sx_K} {X : sx_T}   {Q : Int32 → sx_M → sx_L → Prop} (hX : sx_C X K prog_13_method_90_code 4 "SensorTreeModel" (some .int) rm_Mo_below l) (hK : kx_F K) (hE : sx_E X K (sx_Qi K Q))  : ∀ (f : Nat) (v1 : Int32) (v2 : Int32) (v3 : Int32) (σ : sx_M) (τ : sx_L) , wp_Mo_below_b14 Q f v1 v2 v3 σ τ → sx_G X K 4 14 [(0, .ref (K.2.2.1 50 0 0)), (1, .int v1), (2, .int v2), (3, .int v3)] [] (sx_H K σ τ) := by
  intro f
  induction f with
  | zero => intro v1 v2 v3 σ τ h; exact (show False from h).elim
  | succ f ih =>
    intro v1 v2 v3 σ τ h
    rw [wp_Mo_below_b14] at h
    refine sx_iload_n (pc2 := 15) hX 3 d_Mo_below_14 rfl rfl rfl ?_
    refine sx_aload_n (pc2 := 16) hX 0 d_Mo_below_15 rfl rfl rfl ?_
    refine fg_Mo_40 (pc2 := 19) hX (kr_50 hK) d_Mo_below_16 rfl ?_
    refine sx_aload_n (pc2 := 20) hX 0 d_Mo_below_19 rfl rfl rfl ?_
    refine fg_Mo_170 (pc2 := 23) hX (kr_50 hK) d_Mo_below_20 rfl ?_
    obtain ⟨hc1, h⟩ := h
    refine sx_iald (pc2 := 24) hX (kr_58 hK) rfl hc1 d_Mo_below_23 rfl ?_
    refine sx_icmp_ge (tgt := 53) (pc2 := 27) hX d_Mo_below_24 (by decide) rfl (fun hc2 => ?_) (fun hc2 => ?_)
    · replace h := sx_t h hc2
      refine sx_iload_n (pc2 := 54) hX 2 d_Mo_below_53 rfl rfl rfl ?_
      exact sx_iret hX hE h d_Mo_below_54
    · replace h := sx_f h hc2
      refine sx_iload_n (pc2 := 28) hX 3 d_Mo_below_27 rfl rfl rfl ?_
      refine sx_iload_n (pc2 := 29) hX 1 d_Mo_below_28 rfl rfl rfl ?_
      refine sx_icmp_eq (tgt := 47) (pc2 := 32) hX d_Mo_below_29 (by decide) rfl (fun hc3 => ?_) (fun hc3 => ?_)
      · replace h := sx_t h hc3
        exact g_Mo_below_b47 hX hK hE  ih v1 v2 v3 _ _ h
      · replace h := sx_f h hc3
        refine sx_aload_n (pc2 := 33) hX 0 d_Mo_below_32 rfl rfl rfl ?_
        refine sx_iload_n (pc2 := 34) hX 3 d_Mo_below_33 rfl rfl rfl ?_
        refine sx_iload_n (pc2 := 35) hX 1 d_Mo_below_34 rfl rfl rfl ?_
        refine cl_Mo_354 (pc2 := 38) hX hK h  ⟨Nat.le_of_ble_eq_true rfl, Nat.le_of_ble_eq_true rfl⟩ (Nat.le_of_ble_eq_true rfl) d_Mo_below_35 rfl (fun r4 σ4 τ4 h => ?_)
        refine sx_if_eq (tgt := 47) (pc2 := 41) hX d_Mo_below_38 (by decide) rfl (fun hc5 => ?_) (fun hc5 => ?_)
        · replace h := sx_t h hc5
          exact g_Mo_below_b47 hX hK hE  ih v1 v2 v3 _ _ h
        · replace h := sx_f h hc5
          refine sx_iload_n (pc2 := 42) hX 2 d_Mo_below_41 rfl rfl rfl ?_
          refine sx_iconst (v := 1) (pc2 := 43) hX d_Mo_below_42 (by decide) rfl ?_
          refine sx_iload_n (pc2 := 44) hX 3 d_Mo_below_43 rfl rfl rfl ?_
          refine sx_ishl (pc2 := 45) hX d_Mo_below_44 rfl ?_
          refine sx_ior (pc2 := 46) hX d_Mo_below_45 rfl ?_
          refine sx_istore_n (pc2 := 47) hX _ [(0, .ref (K.2.2.1 50 0 0)), (1, .int v1), (2, .int (v2 ||| (1 <<< (v3 &&& 31)))), (3, .int v3)] [1, 2, 0, 3] d_Mo_below_46 rfl (by decide) rfl rfl rfl ?_
          exact g_Mo_below_b47 hX hK hE  ih v1 (v2 ||| (1 <<< (v3 &&& 31))) v3 _ _ h
set_option maxRecDepth 100000 in
set_option maxHeartbeats 4000000 in
theorem c_Mo_below {l : Launch} {K : sx_K} (hK : kx_F K) (x1 : Int32) (σ : sx_M) (τ : sx_L) (Q : Int32 → sx_M → sx_L → Prop)  (h : wp_Mo_below x1 σ τ Q) : Met l y_Mo_below (sx_wd y_Mo_below prog_13_method_90_code 4 (some .int)) rm_Mo_below (sx_Pc K [.ref (K.2.2.1 50 0 0), .int x1] σ τ) (sx_Qi K Q) 0 0 (sx_A K) := by
  refine sx_met (by decide) (Nat.le_of_ble_eq_true rfl) (fun X hX hE => ?_)
  replace hX : sx_C X K prog_13_method_90_code 4 "SensorTreeModel" (some .int) rm_Mo_below l := hX
  show sx_G X K 4 0 [(0, .ref (K.2.2.1 50 0 0)), (1, .int x1)] [] (sx_H K σ τ)
  unfold wp_Mo_below at h
  refine sx_aload_n (pc2 := 1) hX 0 d_Mo_below_0 rfl rfl rfl ?_
  refine sx_iload_n (pc2 := 2) hX 1 d_Mo_below_1 rfl rfl rfl ?_
  refine cl_Mo_311 (pc2 := 5) hX hK h  ⟨Nat.le_of_ble_eq_true rfl, Nat.le_of_ble_eq_true rfl⟩ (Nat.le_of_ble_eq_true rfl) d_Mo_below_2 rfl (fun r6 σ6 τ6 h => ?_)
  refine sx_if_ne (tgt := 10) (pc2 := 8) hX d_Mo_below_5 (by decide) rfl (fun hc7 => ?_) (fun hc7 => ?_)
  · replace h := sx_f h hc7
    refine sx_iconst (v := 0) (pc2 := 11) hX d_Mo_below_10 (by decide) rfl ?_
    refine sx_istore_n (pc2 := 12) hX _ [(0, .ref (K.2.2.1 50 0 0)), (1, .int x1), (2, .int 0)] [1, 2, 0] d_Mo_below_11 rfl (by decide) rfl rfl rfl ?_
    refine sx_iconst (v := 0) (pc2 := 13) hX d_Mo_below_12 (by decide) rfl ?_
    refine sx_istore_n (pc2 := 14) hX _ [(0, .ref (K.2.2.1 50 0 0)), (1, .int x1), (2, .int 0), (3, .int 0)] [1, 2, 3, 0] d_Mo_below_13 rfl (by decide) rfl rfl rfl ?_
    obtain ⟨f14, h⟩ := h
    exact g_Mo_below_b14 hX hK hE   f14 x1 0 0 _ _ h
  · replace h := sx_t h hc7
    refine sx_iconst (v := (-1)) (pc2 := 9) hX d_Mo_below_8 (by decide) rfl ?_
    exact sx_iret hX hE h d_Mo_below_9
def y_Mo_way : MethodName := ⟨"SensorTreeModel", "way", "(II)I"⟩
theorem hy_Mo_way : y_Mo_way.cls ≠ "java/lang/invoke/MethodHandle" ∧ y_Mo_way.cls ≠ "java/lang/invoke/VarHandle" ∧ (parseMethodDescriptor y_Mo_way.desc).map (fun d => d.parameters.length) = some 2 := by decide +kernel
theorem d_Mo_way_0 : decode prog_13_method_91_code 0 = .ok (.aload_n 0, 1) := by decide +kernel
theorem d_Mo_way_1 : decode prog_13_method_91_code 1 = .ok (.iload_n 1, 1) := by decide +kernel
theorem d_Mo_way_2 : decode prog_13_method_91_code 2 = .ok (.invokevirtual 311, 3) := by decide +kernel
theorem d_Mo_way_5 : decode prog_13_method_91_code 5 = .ok (.ifCond .eq 13, 3) := by decide +kernel
theorem d_Mo_way_8 : decode prog_13_method_91_code 8 = .ok (.iload_n 2, 1) := by decide +kernel
theorem d_Mo_way_9 : decode prog_13_method_91_code 9 = .ok (.iconst 0, 1) := by decide +kernel
theorem d_Mo_way_10 : decode prog_13_method_91_code 10 = .ok (.bipush 20, 2) := by decide +kernel
theorem d_Mo_way_12 : decode prog_13_method_91_code 12 = .ok (.invokestatic 216, 3) := by decide +kernel
theorem d_Mo_way_15 : decode prog_13_method_91_code 15 = .ok (.ifCond .ne 5, 3) := by decide +kernel
theorem d_Mo_way_18 : decode prog_13_method_91_code 18 = .ok (.iconst (-1), 1) := by decide +kernel
theorem d_Mo_way_19 : decode prog_13_method_91_code 19 = .ok (.ireturn, 1) := by decide +kernel
theorem d_Mo_way_20 : decode prog_13_method_91_code 20 = .ok (.iload_n 1, 1) := by decide +kernel
theorem d_Mo_way_21 : decode prog_13_method_91_code 21 = .ok (.istore_n 3, 1) := by decide +kernel
theorem d_Mo_way_22 : decode prog_13_method_91_code 22 = .ok (.iconst 0, 1) := by decide +kernel
theorem d_Mo_way_23 : decode prog_13_method_91_code 23 = .ok (.istore 4, 2) := by decide +kernel
theorem d_Mo_way_25 : decode prog_13_method_91_code 25 = .ok (.iload 4, 2) := by decide +kernel
theorem d_Mo_way_27 : decode prog_13_method_91_code 27 = .ok (.iload_n 2, 1) := by decide +kernel
theorem d_Mo_way_28 : decode prog_13_method_91_code 28 = .ok (.if_icmp .ge 20, 3) := by decide +kernel
theorem d_Mo_way_31 : decode prog_13_method_91_code 31 = .ok (.iload_n 3, 1) := by decide +kernel
theorem d_Mo_way_32 : decode prog_13_method_91_code 32 = .ok (.ifCond .lt 16, 3) := by decide +kernel
theorem d_Mo_way_35 : decode prog_13_method_91_code 35 = .ok (.aload_n 0, 1) := by decide +kernel
theorem d_Mo_way_36 : decode prog_13_method_91_code 36 = .ok (.iload_n 3, 1) := by decide +kernel
theorem d_Mo_way_37 : decode prog_13_method_91_code 37 = .ok (.iconst 2, 1) := by decide +kernel
theorem d_Mo_way_38 : decode prog_13_method_91_code 38 = .ok (.invokevirtual 338, 3) := by decide +kernel
theorem d_Mo_way_41 : decode prog_13_method_91_code 41 = .ok (.istore_n 3, 1) := by decide +kernel
theorem d_Mo_way_42 : decode prog_13_method_91_code 42 = .ok (.iinc 4 1, 3) := by decide +kernel
theorem d_Mo_way_45 : decode prog_13_method_91_code 45 = .ok (.goto (-20), 3) := by decide +kernel
theorem d_Mo_way_48 : decode prog_13_method_91_code 48 = .ok (.iload_n 3, 1) := by decide +kernel
theorem d_Mo_way_49 : decode prog_13_method_91_code 49 = .ok (.ifCond .ge 7, 3) := by decide +kernel
theorem d_Mo_way_52 : decode prog_13_method_91_code 52 = .ok (.iconst (-1), 1) := by decide +kernel
theorem d_Mo_way_53 : decode prog_13_method_91_code 53 = .ok (.goto 4, 3) := by decide +kernel
theorem d_Mo_way_56 : decode prog_13_method_91_code 56 = .ok (.iload_n 3, 1) := by decide +kernel
theorem d_Mo_way_57 : decode prog_13_method_91_code 57 = .ok (.ireturn, 1) := by decide +kernel
def wp_Mo_way_b57   (Q : Int32 → sx_M → sx_L → Prop) (w0 : Int32) (σ : sx_M) (τ : sx_L) : Prop := Q w0 σ τ
def wp_Mo_way_b48   (Q : Int32 → sx_M → sx_L → Prop) (v3 : Int32) (σ : sx_M) (τ : sx_L) : Prop := if 0 ≤ v3 then (wp_Mo_way_b57 Q v3 σ τ) else (wp_Mo_way_b57 Q (-1) σ τ)
def wp_Mo_way_b25   (Q : Int32 → sx_M → sx_L → Prop) : Nat → Int32 → Int32 → Int32 → sx_M → sx_L → Prop
  | 0, _, _, _, _, _ => False
  | f + 1, v2, v3, v4, σ, τ => if v2 ≤ v4 then (wp_Mo_way_b48 Q v3 σ τ) else (if v3 < 0 then (wp_Mo_way_b48 Q v3 σ τ) else (wp_Mo_nowOf v3 (2 : Int32) σ τ (fun r4 σ4 τ4 => wp_Mo_way_b25 Q f v2 r4 (v4 + 1) σ4 τ4)))
def wp_Mo_way_b18   (Q : Int32 → sx_M → sx_L → Prop)  (σ : sx_M) (τ : sx_L) : Prop := Q (-1) σ τ
def wp_Mo_way (x1 : Int32) (x2 : Int32) (σ : sx_M) (τ : sx_L) (Q : Int32 → sx_M → sx_L → Prop) : Prop := wp_Mo_isPost x1 σ τ (fun r5 σ5 τ5 => if r5 = 0 then (wp_Mo_way_b18 Q σ5 τ5) else (wp_Mo_in x2 (0 : Int32) (20 : Int32) σ5 τ5 (fun r7 σ7 τ7 => if r7 = 0 then (wp_Mo_way_b18 Q σ7 τ7) else (∃ f25, wp_Mo_way_b25 Q f25 x2 x1 0 σ7 τ7))))
abbrev rm_Mo_way : Room := { frames := 2, cells := 0, slots := 0, locals := 43 }
set_option maxRecDepth 100000 in
set_option maxHeartbeats 4000000 in
theorem g_Mo_way_b57 {l : Launch} {K : sx_K} {X : sx_T}   {Q : Int32 → sx_M → sx_L → Prop} (hX : sx_C X K prog_13_method_91_code 5 "SensorTreeModel" (some .int) rm_Mo_way l) (hK : kx_F K) (hE : sx_E X K (sx_Qi K Q))  (w0 : Int32) (σ : sx_M) (τ : sx_L)  (h : wp_Mo_way_b57 Q  w0 σ τ) : sx_G X K 5 57 [] [.int w0] (sx_H K σ τ) := by
  unfold wp_Mo_way_b57 at h
  exact sx_iret hX hE h d_Mo_way_57
set_option maxRecDepth 100000 in
set_option maxHeartbeats 4000000 in
theorem g_Mo_way_b48 {l : Launch} {K : sx_K} {X : sx_T}   {Q : Int32 → sx_M → sx_L → Prop} (hX : sx_C X K prog_13_method_91_code 5 "SensorTreeModel" (some .int) rm_Mo_way l) (hK : kx_F K) (hE : sx_E X K (sx_Qi K Q))  (v3 : Int32) (σ : sx_M) (τ : sx_L)  (h : wp_Mo_way_b48 Q  v3 σ τ) : sx_G X K 5 48 [(3, .int v3)] [] (sx_H K σ τ) := by
  unfold wp_Mo_way_b48 at h
  refine sx_iload_n (pc2 := 49) hX 0 d_Mo_way_48 rfl rfl rfl ?_
  refine sx_if_ge (tgt := 56) (pc2 := 52) hX d_Mo_way_49 (by decide) rfl (fun hc1 => ?_) (fun hc1 => ?_)
  · replace h := sx_t h hc1
    refine sx_iload_n (pc2 := 57) hX 0 d_Mo_way_56 rfl rfl rfl ?_
    refine sx_sub [] [] rfl ?_
    exact g_Mo_way_b57 hX hK hE   v3 _ _ h
  · replace h := sx_f h hc1
    refine sx_iconst (v := (-1)) (pc2 := 53) hX d_Mo_way_52 (by decide) rfl ?_
    refine sx_goto (tgt := 57) hX d_Mo_way_53 (by decide) ?_
    refine sx_sub [] [] rfl ?_
    exact g_Mo_way_b57 hX hK hE   (-1) _ _ h
set_option maxRecDepth 100000 in
set_option maxHeartbeats 4000000 in
theorem g_Mo_way_b25 {l : Launch} {K : sx_K} {X : sx_T}   {Q : Int32 → sx_M → sx_L → Prop} (hX : sx_C X K prog_13_method_91_code 5 "SensorTreeModel" (some .int) rm_Mo_way l) (hK : kx_F K) (hE : sx_E X K (sx_Qi K Q))  : ∀ (f : Nat) (v2 : Int32) (v3 : Int32) (v4 : Int32) (σ : sx_M) (τ : sx_L) , wp_Mo_way_b25 Q f v2 v3 v4 σ τ → sx_G X K 5 25 [(0, .ref (K.2.2.1 50 0 0)), (2, .int v2), (3, .int v3), (4, .int v4)] [] (sx_H K σ τ) := by
  intro f
  induction f with
  | zero => intro v2 v3 v4 σ τ h; exact (show False from h).elim
  | succ f ih =>
    intro v2 v3 v4 σ τ h
    rw [wp_Mo_way_b25] at h
    refine sx_iload (pc2 := 27) hX 3 d_Mo_way_25 rfl rfl ?_
    refine sx_iload_n (pc2 := 28) hX 1 d_Mo_way_27 rfl rfl rfl ?_
    refine sx_icmp_ge (tgt := 48) (pc2 := 31) hX d_Mo_way_28 (by decide) rfl (fun hc2 => ?_) (fun hc2 => ?_)
    · replace h := sx_t h hc2
      refine sx_sub [(3, .int v3)] [2] rfl ?_
      exact g_Mo_way_b48 hX hK hE   v3 _ _ h
    · replace h := sx_f h hc2
      refine sx_iload_n (pc2 := 32) hX 2 d_Mo_way_31 rfl rfl rfl ?_
      refine sx_if_lt (tgt := 48) (pc2 := 35) hX d_Mo_way_32 (by decide) rfl (fun hc3 => ?_) (fun hc3 => ?_)
      · replace h := sx_t h hc3
        refine sx_sub [(3, .int v3)] [2] rfl ?_
        exact g_Mo_way_b48 hX hK hE   v3 _ _ h
      · replace h := sx_f h hc3
        refine sx_aload_n (pc2 := 36) hX 0 d_Mo_way_35 rfl rfl rfl ?_
        refine sx_iload_n (pc2 := 37) hX 2 d_Mo_way_36 rfl rfl rfl ?_
        refine sx_iconst (v := 2) (pc2 := 38) hX d_Mo_way_37 (by decide) rfl ?_
        refine cl_Mo_338 (pc2 := 41) hX hK h  ⟨Nat.le_of_ble_eq_true rfl, Nat.le_of_ble_eq_true rfl⟩ (Nat.le_of_ble_eq_true rfl) d_Mo_way_38 rfl (fun r4 σ4 τ4 h => ?_)
        refine sx_istore_n (pc2 := 42) hX _ [(0, .ref (K.2.2.1 50 0 0)), (2, .int v2), (3, .int r4), (4, .int v4)] [1, 2, 0, 3] d_Mo_way_41 rfl (by decide) rfl rfl rfl ?_
        refine sx_iinc (pc2 := 45) hX 3 _ [(0, .ref (K.2.2.1 50 0 0)), (2, .int v2), (3, .int r4), (4, .int (v4 + 1))] [1, 2, 3, 0] d_Mo_way_42 rfl (v4 + 1) rfl (by decide) rfl rfl rfl ?_
        refine sx_goto (tgt := 25) hX d_Mo_way_45 (by decide) ?_
        exact ih v2 r4 (v4 + 1) _ _ h
set_option maxRecDepth 100000 in
set_option maxHeartbeats 4000000 in
theorem g_Mo_way_b18 {l : Launch} {K : sx_K} {X : sx_T}   {Q : Int32 → sx_M → sx_L → Prop} (hX : sx_C X K prog_13_method_91_code 5 "SensorTreeModel" (some .int) rm_Mo_way l) (hK : kx_F K) (hE : sx_E X K (sx_Qi K Q))   (σ : sx_M) (τ : sx_L)  (h : wp_Mo_way_b18 Q  σ τ) : sx_G X K 5 18 [] [] (sx_H K σ τ) := by
  unfold wp_Mo_way_b18 at h
  refine sx_iconst (v := (-1)) (pc2 := 19) hX d_Mo_way_18 (by decide) rfl ?_
  exact sx_iret hX hE h d_Mo_way_19
set_option maxRecDepth 100000 in
set_option maxHeartbeats 4000000 in
theorem c_Mo_way {l : Launch} {K : sx_K} (hK : kx_F K) (x1 : Int32) (x2 : Int32) (σ : sx_M) (τ : sx_L) (Q : Int32 → sx_M → sx_L → Prop)  (h : wp_Mo_way x1 x2 σ τ Q) : Met l y_Mo_way (sx_wd y_Mo_way prog_13_method_91_code 5 (some .int)) rm_Mo_way (sx_Pc K [.ref (K.2.2.1 50 0 0), .int x1, .int x2] σ τ) (sx_Qi K Q) 0 0 (sx_A K) := by
  refine sx_met (by decide) (Nat.le_of_ble_eq_true rfl) (fun X hX hE => ?_)
  replace hX : sx_C X K prog_13_method_91_code 5 "SensorTreeModel" (some .int) rm_Mo_way l := hX
  show sx_G X K 5 0 [(0, .ref (K.2.2.1 50 0 0)), (1, .int x1), (2, .int x2)] [] (sx_H K σ τ)
  unfold wp_Mo_way at h
  refine sx_aload_n (pc2 := 1) hX 0 d_Mo_way_0 rfl rfl rfl ?_
  refine sx_iload_n (pc2 := 2) hX 1 d_Mo_way_1 rfl rfl rfl ?_
  refine cl_Mo_311 (pc2 := 5) hX hK h  ⟨Nat.le_of_ble_eq_true rfl, Nat.le_of_ble_eq_true rfl⟩ (Nat.le_of_ble_eq_true rfl) d_Mo_way_2 rfl (fun r5 σ5 τ5 h => ?_)
  refine sx_if_eq (tgt := 18) (pc2 := 8) hX d_Mo_way_5 (by decide) rfl (fun hc6 => ?_) (fun hc6 => ?_)
  · replace h := sx_t h hc6
    refine sx_sub [] [] rfl ?_
    exact g_Mo_way_b18 hX hK hE   _ _ h
  · replace h := sx_f h hc6
    refine sx_iload_n (pc2 := 9) hX 2 d_Mo_way_8 rfl rfl rfl ?_
    refine sx_iconst (v := 0) (pc2 := 10) hX d_Mo_way_9 (by decide) rfl ?_
    refine sx_bipush (v := 20) (pc2 := 12) hX d_Mo_way_10 (by decide) rfl ?_
    refine cl_Mo_216 (pc2 := 15) hX hK h  ⟨Nat.le_of_ble_eq_true rfl, Nat.le_of_ble_eq_true rfl⟩ (Nat.le_of_ble_eq_true rfl) d_Mo_way_12 rfl (fun r7 σ7 τ7 h => ?_)
    refine sx_if_ne (tgt := 20) (pc2 := 18) hX d_Mo_way_15 (by decide) rfl (fun hc8 => ?_) (fun hc8 => ?_)
    · replace h := sx_f h hc8
      refine sx_iload_n (pc2 := 21) hX 1 d_Mo_way_20 rfl rfl rfl ?_
      refine sx_istore_n (pc2 := 22) hX _ [(0, .ref (K.2.2.1 50 0 0)), (1, .int x1), (2, .int x2), (3, .int x1)] [1, 2, 3, 0] d_Mo_way_21 rfl (by decide) rfl rfl rfl ?_
      refine sx_iconst (v := 0) (pc2 := 23) hX d_Mo_way_22 (by decide) rfl ?_
      refine sx_istore (pc2 := 25) hX _ [(0, .ref (K.2.2.1 50 0 0)), (1, .int x1), (2, .int x2), (3, .int x1), (4, .int 0)] [1, 2, 3, 4, 0] d_Mo_way_23 (by decide) rfl rfl rfl ?_
      refine sx_sub [(0, .ref (K.2.2.1 50 0 0)), (2, .int x2), (3, .int x1), (4, .int 0)] [0, 2, 3, 4] rfl ?_
      obtain ⟨f25, h⟩ := h
      exact g_Mo_way_b25 hX hK hE   f25 x2 x1 0 _ _ h
    · replace h := sx_t h hc8
      refine sx_sub [] [] rfl ?_
      exact g_Mo_way_b18 hX hK hE   _ _ h
def y_Mo_would : MethodName := ⟨"SensorTreeModel", "would", "(III)I"⟩
theorem hy_Mo_would : y_Mo_would.cls ≠ "java/lang/invoke/MethodHandle" ∧ y_Mo_would.cls ≠ "java/lang/invoke/VarHandle" ∧ (parseMethodDescriptor y_Mo_would.desc).map (fun d => d.parameters.length) = some 3 := by decide +kernel
theorem d_Mo_would_0 : decode prog_13_method_92_code 0 = .ok (.aload_n 0, 1) := by decide +kernel
theorem d_Mo_would_1 : decode prog_13_method_92_code 1 = .ok (.iload_n 1, 1) := by decide +kernel
theorem d_Mo_would_2 : decode prog_13_method_92_code 2 = .ok (.iload_n 2, 1) := by decide +kernel
theorem d_Mo_would_3 : decode prog_13_method_92_code 3 = .ok (.invokevirtual 332, 3) := by decide +kernel
theorem d_Mo_would_6 : decode prog_13_method_92_code 6 = .ok (.ifCond .eq 12, 3) := by decide +kernel
theorem d_Mo_would_9 : decode prog_13_method_92_code 9 = .ok (.iload_n 3, 1) := by decide +kernel
theorem d_Mo_would_10 : decode prog_13_method_92_code 10 = .ok (.iconst 0, 1) := by decide +kernel
theorem d_Mo_would_11 : decode prog_13_method_92_code 11 = .ok (.iconst 2, 1) := by decide +kernel
theorem d_Mo_would_12 : decode prog_13_method_92_code 12 = .ok (.invokestatic 216, 3) := by decide +kernel
theorem d_Mo_would_15 : decode prog_13_method_92_code 15 = .ok (.ifCond .ne 5, 3) := by decide +kernel
theorem d_Mo_would_18 : decode prog_13_method_92_code 18 = .ok (.iconst (-1), 1) := by decide +kernel
theorem d_Mo_would_19 : decode prog_13_method_92_code 19 = .ok (.ireturn, 1) := by decide +kernel
theorem d_Mo_would_20 : decode prog_13_method_92_code 20 = .ok (.aload_n 0, 1) := by decide +kernel
theorem d_Mo_would_21 : decode prog_13_method_92_code 21 = .ok (.invokevirtual 317, 3) := by decide +kernel
theorem d_Mo_would_24 : decode prog_13_method_92_code 24 = .ok (.aload_n 0, 1) := by decide +kernel
theorem d_Mo_would_25 : decode prog_13_method_92_code 25 = .ok (.iload_n 1, 1) := by decide +kernel
theorem d_Mo_would_26 : decode prog_13_method_92_code 26 = .ok (.iload_n 2, 1) := by decide +kernel
theorem d_Mo_would_27 : decode prog_13_method_92_code 27 = .ok (.invokevirtual 335, 3) := by decide +kernel
theorem d_Mo_would_30 : decode prog_13_method_92_code 30 = .ok (.istore 4, 2) := by decide +kernel
theorem d_Mo_would_32 : decode prog_13_method_92_code 32 = .ok (.iload_n 3, 1) := by decide +kernel
theorem d_Mo_would_33 : decode prog_13_method_92_code 33 = .ok (.ifCond .ne 8, 3) := by decide +kernel
theorem d_Mo_would_36 : decode prog_13_method_92_code 36 = .ok (.iload 4, 2) := by decide +kernel
theorem d_Mo_would_38 : decode prog_13_method_92_code 38 = .ok (.goto 19, 3) := by decide +kernel
theorem d_Mo_would_41 : decode prog_13_method_92_code 41 = .ok (.iload_n 3, 1) := by decide +kernel
theorem d_Mo_would_42 : decode prog_13_method_92_code 42 = .ok (.iconst 1, 1) := by decide +kernel
theorem d_Mo_would_43 : decode prog_13_method_92_code 43 = .ok (.if_icmp .ne 10, 3) := by decide +kernel
theorem d_Mo_would_46 : decode prog_13_method_92_code 46 = .ok (.aload_n 0, 1) := by decide +kernel
theorem d_Mo_would_47 : decode prog_13_method_92_code 47 = .ok (.getfield 305, 3) := by decide +kernel
theorem d_Mo_would_50 : decode prog_13_method_92_code 50 = .ok (.goto 7, 3) := by decide +kernel
theorem d_Mo_would_53 : decode prog_13_method_92_code 53 = .ok (.aload_n 0, 1) := by decide +kernel
theorem d_Mo_would_54 : decode prog_13_method_92_code 54 = .ok (.getfield 308, 3) := by decide +kernel
theorem d_Mo_would_57 : decode prog_13_method_92_code 57 = .ok (.ireturn, 1) := by decide +kernel
def wp_Mo_would_b57   (Q : Int32 → sx_M → sx_L → Prop) (w0 : Int32) (σ : sx_M) (τ : sx_L) : Prop := Q w0 σ τ
def wp_Mo_would_b18   (Q : Int32 → sx_M → sx_L → Prop)  (σ : sx_M) (τ : sx_L) : Prop := Q (-1) σ τ
def wp_Mo_would (x1 : Int32) (x2 : Int32) (x3 : Int32) (σ : sx_M) (τ : sx_L) (Q : Int32 → sx_M → sx_L → Prop) : Prop := wp_Mo_canSend x1 x2 σ τ (fun r1 σ1 τ1 => if r1 = 0 then (wp_Mo_would_b18 Q σ1 τ1) else (wp_Mo_in x3 (0 : Int32) (2 : Int32) σ1 τ1 (fun r3 σ3 τ3 => if r3 = 0 then (wp_Mo_would_b18 Q σ3 τ3) else (wp_Mo_copies σ3 τ3 (fun σ5 τ5 => wp_Mo_sends x1 x2 σ5 τ5 (fun r6 σ6 τ6 => if x3 = 0 then (wp_Mo_would_b57 Q r6 σ6 τ6) else (if x3 = 1 then (wp_Mo_would_b57 Q (σ6 50 0 0 33) σ6 τ6) else (wp_Mo_would_b57 Q (σ6 50 0 0 34) σ6 τ6))))))))
abbrev rm_Mo_would : Room := { frames := 5, cells := 0, slots := 0, locals := 114 }
set_option maxRecDepth 100000 in
set_option maxHeartbeats 4000000 in
theorem g_Mo_would_b57 {l : Launch} {K : sx_K} {X : sx_T}   {Q : Int32 → sx_M → sx_L → Prop} (hX : sx_C X K prog_13_method_92_code 5 "SensorTreeModel" (some .int) rm_Mo_would l) (hK : kx_F K) (hE : sx_E X K (sx_Qi K Q))  (w0 : Int32) (σ : sx_M) (τ : sx_L)  (h : wp_Mo_would_b57 Q  w0 σ τ) : sx_G X K 5 57 [] [.int w0] (sx_H K σ τ) := by
  unfold wp_Mo_would_b57 at h
  exact sx_iret hX hE h d_Mo_would_57
set_option maxRecDepth 100000 in
set_option maxHeartbeats 4000000 in
theorem g_Mo_would_b18 {l : Launch} {K : sx_K} {X : sx_T}   {Q : Int32 → sx_M → sx_L → Prop} (hX : sx_C X K prog_13_method_92_code 5 "SensorTreeModel" (some .int) rm_Mo_would l) (hK : kx_F K) (hE : sx_E X K (sx_Qi K Q))   (σ : sx_M) (τ : sx_L)  (h : wp_Mo_would_b18 Q  σ τ) : sx_G X K 5 18 [] [] (sx_H K σ τ) := by
  unfold wp_Mo_would_b18 at h
  refine sx_iconst (v := (-1)) (pc2 := 19) hX d_Mo_would_18 (by decide) rfl ?_
  exact sx_iret hX hE h d_Mo_would_19
set_option maxRecDepth 100000 in
set_option maxHeartbeats 4000000 in
theorem c_Mo_would {l : Launch} {K : sx_K} (hK : kx_F K) (x1 : Int32) (x2 : Int32) (x3 : Int32) (σ : sx_M) (τ : sx_L) (Q : Int32 → sx_M → sx_L → Prop)  (h : wp_Mo_would x1 x2 x3 σ τ Q) : Met l y_Mo_would (sx_wd y_Mo_would prog_13_method_92_code 5 (some .int)) rm_Mo_would (sx_Pc K [.ref (K.2.2.1 50 0 0), .int x1, .int x2, .int x3] σ τ) (sx_Qi K Q) 0 0 (sx_A K) := by
  refine sx_met (by decide) (Nat.le_of_ble_eq_true rfl) (fun X hX hE => ?_)
  replace hX : sx_C X K prog_13_method_92_code 5 "SensorTreeModel" (some .int) rm_Mo_would l := hX
  show sx_G X K 5 0 [(0, .ref (K.2.2.1 50 0 0)), (1, .int x1), (2, .int x2), (3, .int x3)] [] (sx_H K σ τ)
  unfold wp_Mo_would at h
  refine sx_aload_n (pc2 := 1) hX 0 d_Mo_would_0 rfl rfl rfl ?_
  refine sx_iload_n (pc2 := 2) hX 1 d_Mo_would_1 rfl rfl rfl ?_
  refine sx_iload_n (pc2 := 3) hX 2 d_Mo_would_2 rfl rfl rfl ?_
  refine cl_Mo_332 (pc2 := 6) hX hK h  ⟨Nat.le_of_ble_eq_true rfl, Nat.le_of_ble_eq_true rfl⟩ (Nat.le_of_ble_eq_true rfl) d_Mo_would_3 rfl (fun r1 σ1 τ1 h => ?_)
  refine sx_if_eq (tgt := 18) (pc2 := 9) hX d_Mo_would_6 (by decide) rfl (fun hc2 => ?_) (fun hc2 => ?_)
  · replace h := sx_t h hc2
    refine sx_sub [] [] rfl ?_
    exact g_Mo_would_b18 hX hK hE   _ _ h
  · replace h := sx_f h hc2
    refine sx_iload_n (pc2 := 10) hX 3 d_Mo_would_9 rfl rfl rfl ?_
    refine sx_iconst (v := 0) (pc2 := 11) hX d_Mo_would_10 (by decide) rfl ?_
    refine sx_iconst (v := 2) (pc2 := 12) hX d_Mo_would_11 (by decide) rfl ?_
    refine cl_Mo_216 (pc2 := 15) hX hK h  ⟨Nat.le_of_ble_eq_true rfl, Nat.le_of_ble_eq_true rfl⟩ (Nat.le_of_ble_eq_true rfl) d_Mo_would_12 rfl (fun r3 σ3 τ3 h => ?_)
    refine sx_if_ne (tgt := 20) (pc2 := 18) hX d_Mo_would_15 (by decide) rfl (fun hc4 => ?_) (fun hc4 => ?_)
    · replace h := sx_f h hc4
      refine sx_aload_n (pc2 := 21) hX 0 d_Mo_would_20 rfl rfl rfl ?_
      refine cl_Mo_317 (pc2 := 24) hX hK h  ⟨Nat.le_of_ble_eq_true rfl, Nat.le_of_ble_eq_true rfl⟩ (Nat.le_of_ble_eq_true rfl) d_Mo_would_21 rfl (fun σ5 τ5 h => ?_)
      refine sx_aload_n (pc2 := 25) hX 0 d_Mo_would_24 rfl rfl rfl ?_
      refine sx_iload_n (pc2 := 26) hX 1 d_Mo_would_25 rfl rfl rfl ?_
      refine sx_iload_n (pc2 := 27) hX 2 d_Mo_would_26 rfl rfl rfl ?_
      refine cl_Mo_335 (pc2 := 30) hX hK h  ⟨Nat.le_of_ble_eq_true rfl, Nat.le_of_ble_eq_true rfl⟩ (Nat.le_of_ble_eq_true rfl) d_Mo_would_27 rfl (fun r6 σ6 τ6 h => ?_)
      refine sx_istore (pc2 := 32) hX _ [(0, .ref (K.2.2.1 50 0 0)), (1, .int x1), (2, .int x2), (3, .int x3), (4, .int r6)] [1, 2, 3, 4, 0] d_Mo_would_30 (by decide) rfl rfl rfl ?_
      refine sx_iload_n (pc2 := 33) hX 3 d_Mo_would_32 rfl rfl rfl ?_
      refine sx_if_ne (tgt := 41) (pc2 := 36) hX d_Mo_would_33 (by decide) rfl (fun hc7 => ?_) (fun hc7 => ?_)
      · replace h := sx_f h hc7
        refine sx_iload_n (pc2 := 42) hX 3 d_Mo_would_41 rfl rfl rfl ?_
        refine sx_iconst (v := 1) (pc2 := 43) hX d_Mo_would_42 (by decide) rfl ?_
        refine sx_icmp_ne (tgt := 53) (pc2 := 46) hX d_Mo_would_43 (by decide) rfl (fun hc8 => ?_) (fun hc8 => ?_)
        · replace h := sx_f h hc8
          refine sx_aload_n (pc2 := 54) hX 0 d_Mo_would_53 rfl rfl rfl ?_
          refine fg_Mo_308 (pc2 := 57) hX (kr_50 hK) d_Mo_would_54 rfl ?_
          refine sx_sub [] [] rfl ?_
          exact g_Mo_would_b57 hX hK hE   (σ6 50 0 0 34) _ _ h
        · replace h := sx_t h hc8
          refine sx_aload_n (pc2 := 47) hX 0 d_Mo_would_46 rfl rfl rfl ?_
          refine fg_Mo_305 (pc2 := 50) hX (kr_50 hK) d_Mo_would_47 rfl ?_
          refine sx_goto (tgt := 57) hX d_Mo_would_50 (by decide) ?_
          refine sx_sub [] [] rfl ?_
          exact g_Mo_would_b57 hX hK hE   (σ6 50 0 0 33) _ _ h
      · replace h := sx_t h hc7
        refine sx_iload (pc2 := 38) hX 4 d_Mo_would_36 rfl rfl ?_
        refine sx_goto (tgt := 57) hX d_Mo_would_38 (by decide) ?_
        refine sx_sub [] [] rfl ?_
        exact g_Mo_would_b57 hX hK hE   r6 _ _ h
    · replace h := sx_t h hc4
      refine sx_sub [] [] rfl ?_
      exact g_Mo_would_b18 hX hK hE   _ _ h
def y_Mo_hop : MethodName := ⟨"SensorTreeModel", "hop", "(III)I"⟩
theorem hy_Mo_hop : y_Mo_hop.cls ≠ "java/lang/invoke/MethodHandle" ∧ y_Mo_hop.cls ≠ "java/lang/invoke/VarHandle" ∧ (parseMethodDescriptor y_Mo_hop.desc).map (fun d => d.parameters.length) = some 3 := by decide +kernel
theorem d_Mo_hop_0 : decode prog_13_method_93_code 0 = .ok (.aload_n 0, 1) := by decide +kernel
theorem d_Mo_hop_1 : decode prog_13_method_93_code 1 = .ok (.iload_n 1, 1) := by decide +kernel
theorem d_Mo_hop_2 : decode prog_13_method_93_code 2 = .ok (.iload_n 2, 1) := by decide +kernel
theorem d_Mo_hop_3 : decode prog_13_method_93_code 3 = .ok (.invokevirtual 332, 3) := by decide +kernel
theorem d_Mo_hop_6 : decode prog_13_method_93_code 6 = .ok (.ifCond .ne 5, 3) := by decide +kernel
theorem d_Mo_hop_9 : decode prog_13_method_93_code 9 = .ok (.iconst (-1), 1) := by decide +kernel
theorem d_Mo_hop_10 : decode prog_13_method_93_code 10 = .ok (.ireturn, 1) := by decide +kernel
theorem d_Mo_hop_11 : decode prog_13_method_93_code 11 = .ok (.aload_n 0, 1) := by decide +kernel
theorem d_Mo_hop_12 : decode prog_13_method_93_code 12 = .ok (.invokevirtual 317, 3) := by decide +kernel
theorem d_Mo_hop_15 : decode prog_13_method_93_code 15 = .ok (.aload_n 0, 1) := by decide +kernel
theorem d_Mo_hop_16 : decode prog_13_method_93_code 16 = .ok (.iload_n 1, 1) := by decide +kernel
theorem d_Mo_hop_17 : decode prog_13_method_93_code 17 = .ok (.iload_n 2, 1) := by decide +kernel
theorem d_Mo_hop_18 : decode prog_13_method_93_code 18 = .ok (.invokevirtual 335, 3) := by decide +kernel
theorem d_Mo_hop_21 : decode prog_13_method_93_code 21 = .ok (.pop, 1) := by decide +kernel
theorem d_Mo_hop_22 : decode prog_13_method_93_code 22 = .ok (.iload_n 3, 1) := by decide +kernel
theorem d_Mo_hop_23 : decode prog_13_method_93_code 23 = .ok (.iconst 0, 1) := by decide +kernel
theorem d_Mo_hop_24 : decode prog_13_method_93_code 24 = .ok (.aload_n 0, 1) := by decide +kernel
theorem d_Mo_hop_25 : decode prog_13_method_93_code 25 = .ok (.getfield 305, 3) := by decide +kernel
theorem d_Mo_hop_28 : decode prog_13_method_93_code 28 = .ok (.iconst 1, 1) := by decide +kernel
theorem d_Mo_hop_29 : decode prog_13_method_93_code 29 = .ok (.isub, 1) := by decide +kernel
theorem d_Mo_hop_30 : decode prog_13_method_93_code 30 = .ok (.invokestatic 216, 3) := by decide +kernel
theorem d_Mo_hop_33 : decode prog_13_method_93_code 33 = .ok (.ifCond .eq 12, 3) := by decide +kernel
theorem d_Mo_hop_36 : decode prog_13_method_93_code 36 = .ok (.aload_n 0, 1) := by decide +kernel
theorem d_Mo_hop_37 : decode prog_13_method_93_code 37 = .ok (.getfield 77, 3) := by decide +kernel
theorem d_Mo_hop_40 : decode prog_13_method_93_code 40 = .ok (.iload_n 3, 1) := by decide +kernel
theorem d_Mo_hop_41 : decode prog_13_method_93_code 41 = .ok (.iaload, 1) := by decide +kernel
theorem d_Mo_hop_42 : decode prog_13_method_93_code 42 = .ok (.goto 4, 3) := by decide +kernel
theorem d_Mo_hop_45 : decode prog_13_method_93_code 45 = .ok (.iconst (-1), 1) := by decide +kernel
theorem d_Mo_hop_46 : decode prog_13_method_93_code 46 = .ok (.ireturn, 1) := by decide +kernel
def wp_Mo_hop_b46   (Q : Int32 → sx_M → sx_L → Prop) (w0 : Int32) (σ : sx_M) (τ : sx_L) : Prop := Q w0 σ τ
def wp_Mo_hop (x1 : Int32) (x2 : Int32) (x3 : Int32) (σ : sx_M) (τ : sx_L) (Q : Int32 → sx_M → sx_L → Prop) : Prop := wp_Mo_canSend x1 x2 σ τ (fun r1 σ1 τ1 => if r1 = 0 then (Q (-1) σ1 τ1) else (wp_Mo_copies σ1 τ1 (fun σ3 τ3 => wp_Mo_sends x1 x2 σ3 τ3 (fun r4 σ4 τ4 => wp_Mo_in x3 (0 : Int32) ((σ4 50 0 0 33) - 1) σ4 τ4 (fun r5 σ5 τ5 => if r5 = 0 then (wp_Mo_hop_b46 Q (-1) σ5 τ5) else (vp_in x3 20 ∧ (wp_Mo_hop_b46 Q (σ5 70 0 0 x3.toNatClampNeg) σ5 τ5)))))))
abbrev rm_Mo_hop : Room := { frames := 5, cells := 0, slots := 0, locals := 114 }
set_option maxRecDepth 100000 in
set_option maxHeartbeats 4000000 in
theorem g_Mo_hop_b46 {l : Launch} {K : sx_K} {X : sx_T}   {Q : Int32 → sx_M → sx_L → Prop} (hX : sx_C X K prog_13_method_93_code 4 "SensorTreeModel" (some .int) rm_Mo_hop l) (hK : kx_F K) (hE : sx_E X K (sx_Qi K Q))  (w0 : Int32) (σ : sx_M) (τ : sx_L)  (h : wp_Mo_hop_b46 Q  w0 σ τ) : sx_G X K 4 46 [] [.int w0] (sx_H K σ τ) := by
  unfold wp_Mo_hop_b46 at h
  exact sx_iret hX hE h d_Mo_hop_46
set_option maxRecDepth 100000 in
set_option maxHeartbeats 4000000 in
theorem c_Mo_hop {l : Launch} {K : sx_K} (hK : kx_F K) (x1 : Int32) (x2 : Int32) (x3 : Int32) (σ : sx_M) (τ : sx_L) (Q : Int32 → sx_M → sx_L → Prop)  (h : wp_Mo_hop x1 x2 x3 σ τ Q) : Met l y_Mo_hop (sx_wd y_Mo_hop prog_13_method_93_code 4 (some .int)) rm_Mo_hop (sx_Pc K [.ref (K.2.2.1 50 0 0), .int x1, .int x2, .int x3] σ τ) (sx_Qi K Q) 0 0 (sx_A K) := by
  refine sx_met (by decide) (Nat.le_of_ble_eq_true rfl) (fun X hX hE => ?_)
  replace hX : sx_C X K prog_13_method_93_code 4 "SensorTreeModel" (some .int) rm_Mo_hop l := hX
  show sx_G X K 4 0 [(0, .ref (K.2.2.1 50 0 0)), (1, .int x1), (2, .int x2), (3, .int x3)] [] (sx_H K σ τ)
  unfold wp_Mo_hop at h
  refine sx_aload_n (pc2 := 1) hX 0 d_Mo_hop_0 rfl rfl rfl ?_
  refine sx_iload_n (pc2 := 2) hX 1 d_Mo_hop_1 rfl rfl rfl ?_
  refine sx_iload_n (pc2 := 3) hX 2 d_Mo_hop_2 rfl rfl rfl ?_
  refine cl_Mo_332 (pc2 := 6) hX hK h  ⟨Nat.le_of_ble_eq_true rfl, Nat.le_of_ble_eq_true rfl⟩ (Nat.le_of_ble_eq_true rfl) d_Mo_hop_3 rfl (fun r1 σ1 τ1 h => ?_)
  refine sx_if_ne (tgt := 11) (pc2 := 9) hX d_Mo_hop_6 (by decide) rfl (fun hc2 => ?_) (fun hc2 => ?_)
  · replace h := sx_f h hc2
    refine sx_aload_n (pc2 := 12) hX 0 d_Mo_hop_11 rfl rfl rfl ?_
    refine cl_Mo_317 (pc2 := 15) hX hK h  ⟨Nat.le_of_ble_eq_true rfl, Nat.le_of_ble_eq_true rfl⟩ (Nat.le_of_ble_eq_true rfl) d_Mo_hop_12 rfl (fun σ3 τ3 h => ?_)
    refine sx_aload_n (pc2 := 16) hX 0 d_Mo_hop_15 rfl rfl rfl ?_
    refine sx_iload_n (pc2 := 17) hX 1 d_Mo_hop_16 rfl rfl rfl ?_
    refine sx_iload_n (pc2 := 18) hX 2 d_Mo_hop_17 rfl rfl rfl ?_
    refine cl_Mo_335 (pc2 := 21) hX hK h  ⟨Nat.le_of_ble_eq_true rfl, Nat.le_of_ble_eq_true rfl⟩ (Nat.le_of_ble_eq_true rfl) d_Mo_hop_18 rfl (fun r4 σ4 τ4 h => ?_)
    refine sx_pop (pc2 := 22) hX d_Mo_hop_21 rfl rfl ?_
    refine sx_iload_n (pc2 := 23) hX 3 d_Mo_hop_22 rfl rfl rfl ?_
    refine sx_iconst (v := 0) (pc2 := 24) hX d_Mo_hop_23 (by decide) rfl ?_
    refine sx_aload_n (pc2 := 25) hX 0 d_Mo_hop_24 rfl rfl rfl ?_
    refine fg_Mo_305 (pc2 := 28) hX (kr_50 hK) d_Mo_hop_25 rfl ?_
    refine sx_iconst (v := 1) (pc2 := 29) hX d_Mo_hop_28 (by decide) rfl ?_
    refine sx_isub (pc2 := 30) hX d_Mo_hop_29 rfl ?_
    refine cl_Mo_216 (pc2 := 33) hX hK h  ⟨Nat.le_of_ble_eq_true rfl, Nat.le_of_ble_eq_true rfl⟩ (Nat.le_of_ble_eq_true rfl) d_Mo_hop_30 rfl (fun r5 σ5 τ5 h => ?_)
    refine sx_if_eq (tgt := 45) (pc2 := 36) hX d_Mo_hop_33 (by decide) rfl (fun hc6 => ?_) (fun hc6 => ?_)
    · replace h := sx_t h hc6
      refine sx_iconst (v := (-1)) (pc2 := 46) hX d_Mo_hop_45 (by decide) rfl ?_
      refine sx_sub [] [] rfl ?_
      exact g_Mo_hop_b46 hX hK hE   (-1) _ _ h
    · replace h := sx_f h hc6
      refine sx_aload_n (pc2 := 37) hX 0 d_Mo_hop_36 rfl rfl rfl ?_
      refine fg_Mo_77 (pc2 := 40) hX (kr_50 hK) d_Mo_hop_37 rfl ?_
      refine sx_iload_n (pc2 := 41) hX 3 d_Mo_hop_40 rfl rfl rfl ?_
      obtain ⟨hc7, h⟩ := h
      refine sx_iald (pc2 := 42) hX (kr_70 hK) rfl hc7 d_Mo_hop_41 rfl ?_
      refine sx_goto (tgt := 46) hX d_Mo_hop_42 (by decide) ?_
      refine sx_sub [] [] rfl ?_
      exact g_Mo_hop_b46 hX hK hE   (σ5 70 0 0 x3.toNatClampNeg) _ _ h
  · replace h := sx_t h hc2
    refine sx_iconst (v := (-1)) (pc2 := 10) hX d_Mo_hop_9 (by decide) rfl ?_
    exact sx_iret hX hE h d_Mo_hop_10
def y_Mo_soon : MethodName := ⟨"SensorTreeModel", "soon", "()I"⟩
theorem hy_Mo_soon : y_Mo_soon.cls ≠ "java/lang/invoke/MethodHandle" ∧ y_Mo_soon.cls ≠ "java/lang/invoke/VarHandle" ∧ (parseMethodDescriptor y_Mo_soon.desc).map (fun d => d.parameters.length) = some 0 := by decide +kernel
theorem d_Mo_soon_0 : decode prog_13_method_94_code 0 = .ok (.aload_n 0, 1) := by decide +kernel
theorem d_Mo_soon_1 : decode prog_13_method_94_code 1 = .ok (.invokevirtual 317, 3) := by decide +kernel
theorem d_Mo_soon_4 : decode prog_13_method_94_code 4 = .ok (.iconst 0, 1) := by decide +kernel
theorem d_Mo_soon_5 : decode prog_13_method_94_code 5 = .ok (.istore_n 1, 1) := by decide +kernel
theorem d_Mo_soon_6 : decode prog_13_method_94_code 6 = .ok (.iload_n 1, 1) := by decide +kernel
theorem d_Mo_soon_7 : decode prog_13_method_94_code 7 = .ok (.sipush 200, 3) := by decide +kernel
theorem d_Mo_soon_10 : decode prog_13_method_94_code 10 = .ok (.if_icmp .gt 22, 3) := by decide +kernel
theorem d_Mo_soon_13 : decode prog_13_method_94_code 13 = .ok (.aload_n 0, 1) := by decide +kernel
theorem d_Mo_soon_14 : decode prog_13_method_94_code 14 = .ok (.invokevirtual 350, 3) := by decide +kernel
theorem d_Mo_soon_17 : decode prog_13_method_94_code 17 = .ok (.ifCond .eq 5, 3) := by decide +kernel
theorem d_Mo_soon_20 : decode prog_13_method_94_code 20 = .ok (.iload_n 1, 1) := by decide +kernel
theorem d_Mo_soon_21 : decode prog_13_method_94_code 21 = .ok (.ireturn, 1) := by decide +kernel
theorem d_Mo_soon_22 : decode prog_13_method_94_code 22 = .ok (.aload_n 0, 1) := by decide +kernel
theorem d_Mo_soon_23 : decode prog_13_method_94_code 23 = .ok (.invokevirtual 302, 3) := by decide +kernel
theorem d_Mo_soon_26 : decode prog_13_method_94_code 26 = .ok (.iinc 1 1, 3) := by decide +kernel
theorem d_Mo_soon_29 : decode prog_13_method_94_code 29 = .ok (.goto (-23), 3) := by decide +kernel
theorem d_Mo_soon_32 : decode prog_13_method_94_code 32 = .ok (.bipush (-2), 2) := by decide +kernel
theorem d_Mo_soon_34 : decode prog_13_method_94_code 34 = .ok (.ireturn, 1) := by decide +kernel
def wp_Mo_soon_b6   (Q : Int32 → sx_M → sx_L → Prop) : Nat → Int32 → sx_M → sx_L → Prop
  | 0, _, _, _ => False
  | f + 1, v1, σ, τ => if 200 < v1 then (Q (-2) σ τ) else (wp_Mo_isRight σ τ (fun r2 σ2 τ2 => if r2 = 0 then (wp_Mo_tickGoes σ2 τ2 (fun σ4 τ4 => wp_Mo_soon_b6 Q f (v1 + 1) σ4 τ4)) else (Q v1 σ2 τ2)))
def wp_Mo_soon  (σ : sx_M) (τ : sx_L) (Q : Int32 → sx_M → sx_L → Prop) : Prop := wp_Mo_copies σ τ (fun σ5 τ5 => ∃ f6, wp_Mo_soon_b6 Q f6 0 σ5 τ5)
abbrev rm_Mo_soon : Room := { frames := 8, cells := 0, slots := 0, locals := 187 }
set_option maxRecDepth 100000 in
set_option maxHeartbeats 4000000 in
theorem g_Mo_soon_b6 {l : Launch} {K : sx_K} {X : sx_T}   {Q : Int32 → sx_M → sx_L → Prop} (hX : sx_C X K prog_13_method_94_code 2 "SensorTreeModel" (some .int) rm_Mo_soon l) (hK : kx_F K) (hE : sx_E X K (sx_Qi K Q))  : ∀ (f : Nat) (v1 : Int32) (σ : sx_M) (τ : sx_L) , wp_Mo_soon_b6 Q f v1 σ τ → sx_G X K 2 6 [(0, .ref (K.2.2.1 50 0 0)), (1, .int v1)] [] (sx_H K σ τ) := by
  intro f
  induction f with
  | zero => intro v1 σ τ h; exact (show False from h).elim
  | succ f ih =>
    intro v1 σ τ h
    rw [wp_Mo_soon_b6] at h
    refine sx_iload_n (pc2 := 7) hX 1 d_Mo_soon_6 rfl rfl rfl ?_
    refine sx_sipush (v := 200) (pc2 := 10) hX d_Mo_soon_7 (by decide) rfl ?_
    refine sx_icmp_gt (tgt := 32) (pc2 := 13) hX d_Mo_soon_10 (by decide) rfl (fun hc1 => ?_) (fun hc1 => ?_)
    · replace h := sx_t h hc1
      refine sx_bipush (v := (-2)) (pc2 := 34) hX d_Mo_soon_32 (by decide) rfl ?_
      exact sx_iret hX hE h d_Mo_soon_34
    · replace h := sx_f h hc1
      refine sx_aload_n (pc2 := 14) hX 0 d_Mo_soon_13 rfl rfl rfl ?_
      refine cl_Mo_350 (pc2 := 17) hX hK h  ⟨Nat.le_of_ble_eq_true rfl, Nat.le_of_ble_eq_true rfl⟩ (Nat.le_of_ble_eq_true rfl) d_Mo_soon_14 rfl (fun r2 σ2 τ2 h => ?_)
      refine sx_if_eq (tgt := 22) (pc2 := 20) hX d_Mo_soon_17 (by decide) rfl (fun hc3 => ?_) (fun hc3 => ?_)
      · replace h := sx_t h hc3
        refine sx_aload_n (pc2 := 23) hX 0 d_Mo_soon_22 rfl rfl rfl ?_
        refine cl_Mo_302 (pc2 := 26) hX hK h  ⟨Nat.le_of_ble_eq_true rfl, Nat.le_of_ble_eq_true rfl⟩ (Nat.le_of_ble_eq_true rfl) d_Mo_soon_23 rfl (fun σ4 τ4 h => ?_)
        refine sx_iinc (pc2 := 29) hX 1 _ [(0, .ref (K.2.2.1 50 0 0)), (1, .int (v1 + 1))] [1, 0] d_Mo_soon_26 rfl (v1 + 1) rfl (by decide) rfl rfl rfl ?_
        refine sx_goto (tgt := 6) hX d_Mo_soon_29 (by decide) ?_
        exact ih (v1 + 1) _ _ h
      · replace h := sx_f h hc3
        refine sx_iload_n (pc2 := 21) hX 1 d_Mo_soon_20 rfl rfl rfl ?_
        exact sx_iret hX hE h d_Mo_soon_21
set_option maxRecDepth 100000 in
set_option maxHeartbeats 4000000 in
theorem c_Mo_soon {l : Launch} {K : sx_K} (hK : kx_F K)  (σ : sx_M) (τ : sx_L) (Q : Int32 → sx_M → sx_L → Prop)  (h : wp_Mo_soon σ τ Q) : Met l y_Mo_soon (sx_wd y_Mo_soon prog_13_method_94_code 2 (some .int)) rm_Mo_soon (sx_Pc K [.ref (K.2.2.1 50 0 0)] σ τ) (sx_Qi K Q) 0 0 (sx_A K) := by
  refine sx_met (by decide) (Nat.le_of_ble_eq_true rfl) (fun X hX hE => ?_)
  replace hX : sx_C X K prog_13_method_94_code 2 "SensorTreeModel" (some .int) rm_Mo_soon l := hX
  show sx_G X K 2 0 [(0, .ref (K.2.2.1 50 0 0))] [] (sx_H K σ τ)
  unfold wp_Mo_soon at h
  refine sx_aload_n (pc2 := 1) hX 0 d_Mo_soon_0 rfl rfl rfl ?_
  refine cl_Mo_317 (pc2 := 4) hX hK h  ⟨Nat.le_of_ble_eq_true rfl, Nat.le_of_ble_eq_true rfl⟩ (Nat.le_of_ble_eq_true rfl) d_Mo_soon_1 rfl (fun σ5 τ5 h => ?_)
  refine sx_iconst (v := 0) (pc2 := 5) hX d_Mo_soon_4 (by decide) rfl ?_
  refine sx_istore_n (pc2 := 6) hX _ [(0, .ref (K.2.2.1 50 0 0)), (1, .int 0)] [1, 0] d_Mo_soon_5 rfl (by decide) rfl rfl rfl ?_
  obtain ⟨f6, h⟩ := h
  exact g_Mo_soon_b6 hX hK hE   f6 0 _ _ h
def y_Mo_said : MethodName := ⟨"SensorTreeModel", "said", "()I"⟩
theorem hy_Mo_said : y_Mo_said.cls ≠ "java/lang/invoke/MethodHandle" ∧ y_Mo_said.cls ≠ "java/lang/invoke/VarHandle" ∧ (parseMethodDescriptor y_Mo_said.desc).map (fun d => d.parameters.length) = some 0 := by decide +kernel
theorem d_Mo_said_0 : decode prog_13_method_95_code 0 = .ok (.aload_n 0, 1) := by decide +kernel
theorem d_Mo_said_1 : decode prog_13_method_95_code 1 = .ok (.getfield 71, 3) := by decide +kernel
theorem d_Mo_said_4 : decode prog_13_method_95_code 4 = .ok (.iconst 1, 1) := by decide +kernel
theorem d_Mo_said_5 : decode prog_13_method_95_code 5 = .ok (.iaload, 1) := by decide +kernel
theorem d_Mo_said_6 : decode prog_13_method_95_code 6 = .ok (.aload_n 0, 1) := by decide +kernel
theorem d_Mo_said_7 : decode prog_13_method_95_code 7 = .ok (.getfield 71, 3) := by decide +kernel
theorem d_Mo_said_10 : decode prog_13_method_95_code 10 = .ok (.iconst 2, 1) := by decide +kernel
theorem d_Mo_said_11 : decode prog_13_method_95_code 11 = .ok (.iaload, 1) := by decide +kernel
theorem d_Mo_said_12 : decode prog_13_method_95_code 12 = .ok (.iadd, 1) := by decide +kernel
theorem d_Mo_said_13 : decode prog_13_method_95_code 13 = .ok (.aload_n 0, 1) := by decide +kernel
theorem d_Mo_said_14 : decode prog_13_method_95_code 14 = .ok (.getfield 71, 3) := by decide +kernel
theorem d_Mo_said_17 : decode prog_13_method_95_code 17 = .ok (.iconst 3, 1) := by decide +kernel
theorem d_Mo_said_18 : decode prog_13_method_95_code 18 = .ok (.iaload, 1) := by decide +kernel
theorem d_Mo_said_19 : decode prog_13_method_95_code 19 = .ok (.iadd, 1) := by decide +kernel
theorem d_Mo_said_20 : decode prog_13_method_95_code 20 = .ok (.ireturn, 1) := by decide +kernel
def wp_Mo_said  (σ : sx_M) (τ : sx_L) (Q : Int32 → sx_M → sx_L → Prop) : Prop := vp_in 1 643 ∧ (vp_in 2 643 ∧ (vp_in 3 643 ∧ (Q (((σ 68 0 0 (1 : Int32).toNatClampNeg) + (σ 68 0 0 (2 : Int32).toNatClampNeg)) + (σ 68 0 0 (3 : Int32).toNatClampNeg)) σ τ)))
abbrev rm_Mo_said : Room := { frames := 0, cells := 0, slots := 0, locals := 0 }
set_option maxRecDepth 100000 in
set_option maxHeartbeats 4000000 in
theorem c_Mo_said {l : Launch} {K : sx_K} (hK : kx_F K)  (σ : sx_M) (τ : sx_L) (Q : Int32 → sx_M → sx_L → Prop)  (h : wp_Mo_said σ τ Q) : Met l y_Mo_said (sx_wd y_Mo_said prog_13_method_95_code 1 (some .int)) rm_Mo_said (sx_Pc K [.ref (K.2.2.1 50 0 0)] σ τ) (sx_Qi K Q) 0 0 (sx_A K) := by
  refine sx_met (by decide) (Nat.le_of_ble_eq_true rfl) (fun X hX hE => ?_)
  replace hX : sx_C X K prog_13_method_95_code 1 "SensorTreeModel" (some .int) rm_Mo_said l := hX
  show sx_G X K 1 0 [(0, .ref (K.2.2.1 50 0 0))] [] (sx_H K σ τ)
  unfold wp_Mo_said at h
  refine sx_aload_n (pc2 := 1) hX 0 d_Mo_said_0 rfl rfl rfl ?_
  refine fg_Mo_71 (pc2 := 4) hX (kr_50 hK) d_Mo_said_1 rfl ?_
  refine sx_iconst (v := 1) (pc2 := 5) hX d_Mo_said_4 (by decide) rfl ?_
  obtain ⟨hc1, h⟩ := h
  refine sx_iald (pc2 := 6) hX (kr_68 hK) rfl hc1 d_Mo_said_5 rfl ?_
  refine sx_aload_n (pc2 := 7) hX 0 d_Mo_said_6 rfl rfl rfl ?_
  refine fg_Mo_71 (pc2 := 10) hX (kr_50 hK) d_Mo_said_7 rfl ?_
  refine sx_iconst (v := 2) (pc2 := 11) hX d_Mo_said_10 (by decide) rfl ?_
  obtain ⟨hc2, h⟩ := h
  refine sx_iald (pc2 := 12) hX (kr_68 hK) rfl hc2 d_Mo_said_11 rfl ?_
  refine sx_iadd (pc2 := 13) hX d_Mo_said_12 rfl ?_
  refine sx_aload_n (pc2 := 14) hX 0 d_Mo_said_13 rfl rfl rfl ?_
  refine fg_Mo_71 (pc2 := 17) hX (kr_50 hK) d_Mo_said_14 rfl ?_
  refine sx_iconst (v := 3) (pc2 := 18) hX d_Mo_said_17 (by decide) rfl ?_
  obtain ⟨hc3, h⟩ := h
  refine sx_iald (pc2 := 19) hX (kr_68 hK) rfl hc3 d_Mo_said_18 rfl ?_
  refine sx_iadd (pc2 := 20) hX d_Mo_said_19 rfl ?_
  exact sx_iret hX hE h d_Mo_said_20
theorem cl_Mo_357 {X : sx_T} {K : sx_K} {cc : ByteArray} {nL : Nat} {ret : Option FieldType} {rm : Room} {l : Launch} {pc pc2 : Nat} {lv : List (Nat × Value)} {st : List Value} {σ : sx_M} {τ : sx_L}  {Q : Int32 → sx_M → sx_L → Prop} (hX : sx_C X K cc nL "SensorTreeModel" ret rm l) (hK : kx_F K) (h : wp_Mo_said  σ τ Q)  (hR : rm_Mo_said.frames + 1 ≤ rm.frames ∧ 8 + (1 + 11) + rm_Mo_said.locals ≤ rm.locals) (hst : (st.map fun v => v.category).sum ≤ 8) (hd : decode cc pc = .ok (.invokevirtual 357, 3)) (hpc : pc + 3 = pc2) (kk : ∀ (r : Int32) (σ2 : sx_M) (τ2 : sx_L), Q r σ2 τ2 → sx_G X K nL pc2 lv (.int r :: st) (sx_H K σ2 τ2)) : sx_G X K nL pc lv (.ref (K.2.2.1 50 0 0) :: st) (sx_H K σ τ) :=
  sx_callVi (Q := Q) (As := []) hX (c_Mo_said hK  σ τ Q  h) (kr_50 hK) rfl rfl lk_562 ls_94 hy_Mo_said lk_560 lk_364 lk_561 ⟨rfl, rfl⟩ hR hst rfl hd hpc kk
def y_Mo_busy : MethodName := ⟨"SensorTreeModel", "busy", "(I)I"⟩
theorem hy_Mo_busy : y_Mo_busy.cls ≠ "java/lang/invoke/MethodHandle" ∧ y_Mo_busy.cls ≠ "java/lang/invoke/VarHandle" ∧ (parseMethodDescriptor y_Mo_busy.desc).map (fun d => d.parameters.length) = some 1 := by decide +kernel
theorem d_Mo_busy_0 : decode prog_13_method_96_code 0 = .ok (.iload_n 1, 1) := by decide +kernel
theorem d_Mo_busy_1 : decode prog_13_method_96_code 1 = .ok (.iconst 0, 1) := by decide +kernel
theorem d_Mo_busy_2 : decode prog_13_method_96_code 2 = .ok (.sipush 200, 3) := by decide +kernel
theorem d_Mo_busy_5 : decode prog_13_method_96_code 5 = .ok (.invokestatic 216, 3) := by decide +kernel
theorem d_Mo_busy_8 : decode prog_13_method_96_code 8 = .ok (.ifCond .ne 5, 3) := by decide +kernel
theorem d_Mo_busy_11 : decode prog_13_method_96_code 11 = .ok (.iconst (-1), 1) := by decide +kernel
theorem d_Mo_busy_12 : decode prog_13_method_96_code 12 = .ok (.ireturn, 1) := by decide +kernel
theorem d_Mo_busy_13 : decode prog_13_method_96_code 13 = .ok (.aload_n 0, 1) := by decide +kernel
theorem d_Mo_busy_14 : decode prog_13_method_96_code 14 = .ok (.invokevirtual 317, 3) := by decide +kernel
theorem d_Mo_busy_17 : decode prog_13_method_96_code 17 = .ok (.aload_n 0, 1) := by decide +kernel
theorem d_Mo_busy_18 : decode prog_13_method_96_code 18 = .ok (.invokevirtual 357, 3) := by decide +kernel
theorem d_Mo_busy_21 : decode prog_13_method_96_code 21 = .ok (.istore_n 2, 1) := by decide +kernel
theorem d_Mo_busy_22 : decode prog_13_method_96_code 22 = .ok (.aload_n 0, 1) := by decide +kernel
theorem d_Mo_busy_23 : decode prog_13_method_96_code 23 = .ok (.iload_n 1, 1) := by decide +kernel
theorem d_Mo_busy_24 : decode prog_13_method_96_code 24 = .ok (.invokevirtual 323, 3) := by decide +kernel
theorem d_Mo_busy_27 : decode prog_13_method_96_code 27 = .ok (.aload_n 0, 1) := by decide +kernel
theorem d_Mo_busy_28 : decode prog_13_method_96_code 28 = .ok (.invokevirtual 357, 3) := by decide +kernel
theorem d_Mo_busy_31 : decode prog_13_method_96_code 31 = .ok (.iload_n 2, 1) := by decide +kernel
theorem d_Mo_busy_32 : decode prog_13_method_96_code 32 = .ok (.isub, 1) := by decide +kernel
theorem d_Mo_busy_33 : decode prog_13_method_96_code 33 = .ok (.ireturn, 1) := by decide +kernel
def wp_Mo_busy (x1 : Int32) (σ : sx_M) (τ : sx_L) (Q : Int32 → sx_M → sx_L → Prop) : Prop := wp_Mo_in x1 (0 : Int32) (200 : Int32) σ τ (fun r1 σ1 τ1 => if r1 = 0 then (Q (-1) σ1 τ1) else (wp_Mo_copies σ1 τ1 (fun σ3 τ3 => wp_Mo_said σ3 τ3 (fun r4 σ4 τ4 => wp_Mo_goes x1 σ4 τ4 (fun σ5 τ5 => wp_Mo_said σ5 τ5 (fun r6 σ6 τ6 => Q (r6 - r4) σ6 τ6))))))
abbrev rm_Mo_busy : Room := { frames := 9, cells := 0, slots := 0, locals := 209 }
set_option maxRecDepth 100000 in
set_option maxHeartbeats 4000000 in
theorem c_Mo_busy {l : Launch} {K : sx_K} (hK : kx_F K) (x1 : Int32) (σ : sx_M) (τ : sx_L) (Q : Int32 → sx_M → sx_L → Prop)  (h : wp_Mo_busy x1 σ τ Q) : Met l y_Mo_busy (sx_wd y_Mo_busy prog_13_method_96_code 3 (some .int)) rm_Mo_busy (sx_Pc K [.ref (K.2.2.1 50 0 0), .int x1] σ τ) (sx_Qi K Q) 0 0 (sx_A K) := by
  refine sx_met (by decide) (Nat.le_of_ble_eq_true rfl) (fun X hX hE => ?_)
  replace hX : sx_C X K prog_13_method_96_code 3 "SensorTreeModel" (some .int) rm_Mo_busy l := hX
  show sx_G X K 3 0 [(0, .ref (K.2.2.1 50 0 0)), (1, .int x1)] [] (sx_H K σ τ)
  unfold wp_Mo_busy at h
  refine sx_iload_n (pc2 := 1) hX 1 d_Mo_busy_0 rfl rfl rfl ?_
  refine sx_iconst (v := 0) (pc2 := 2) hX d_Mo_busy_1 (by decide) rfl ?_
  refine sx_sipush (v := 200) (pc2 := 5) hX d_Mo_busy_2 (by decide) rfl ?_
  refine cl_Mo_216 (pc2 := 8) hX hK h  ⟨Nat.le_of_ble_eq_true rfl, Nat.le_of_ble_eq_true rfl⟩ (Nat.le_of_ble_eq_true rfl) d_Mo_busy_5 rfl (fun r1 σ1 τ1 h => ?_)
  refine sx_if_ne (tgt := 13) (pc2 := 11) hX d_Mo_busy_8 (by decide) rfl (fun hc2 => ?_) (fun hc2 => ?_)
  · replace h := sx_f h hc2
    refine sx_aload_n (pc2 := 14) hX 0 d_Mo_busy_13 rfl rfl rfl ?_
    refine cl_Mo_317 (pc2 := 17) hX hK h  ⟨Nat.le_of_ble_eq_true rfl, Nat.le_of_ble_eq_true rfl⟩ (Nat.le_of_ble_eq_true rfl) d_Mo_busy_14 rfl (fun σ3 τ3 h => ?_)
    refine sx_aload_n (pc2 := 18) hX 0 d_Mo_busy_17 rfl rfl rfl ?_
    refine cl_Mo_357 (pc2 := 21) hX hK h  ⟨Nat.le_of_ble_eq_true rfl, Nat.le_of_ble_eq_true rfl⟩ (Nat.le_of_ble_eq_true rfl) d_Mo_busy_18 rfl (fun r4 σ4 τ4 h => ?_)
    refine sx_istore_n (pc2 := 22) hX _ [(0, .ref (K.2.2.1 50 0 0)), (1, .int x1), (2, .int r4)] [1, 2, 0] d_Mo_busy_21 rfl (by decide) rfl rfl rfl ?_
    refine sx_aload_n (pc2 := 23) hX 0 d_Mo_busy_22 rfl rfl rfl ?_
    refine sx_iload_n (pc2 := 24) hX 1 d_Mo_busy_23 rfl rfl rfl ?_
    refine cl_Mo_323 (pc2 := 27) hX hK h  ⟨Nat.le_of_ble_eq_true rfl, Nat.le_of_ble_eq_true rfl⟩ (Nat.le_of_ble_eq_true rfl) d_Mo_busy_24 rfl (fun σ5 τ5 h => ?_)
    refine sx_aload_n (pc2 := 28) hX 0 d_Mo_busy_27 rfl rfl rfl ?_
    refine cl_Mo_357 (pc2 := 31) hX hK h  ⟨Nat.le_of_ble_eq_true rfl, Nat.le_of_ble_eq_true rfl⟩ (Nat.le_of_ble_eq_true rfl) d_Mo_busy_28 rfl (fun r6 σ6 τ6 h => ?_)
    refine sx_iload_n (pc2 := 32) hX 2 d_Mo_busy_31 rfl rfl rfl ?_
    refine sx_isub (pc2 := 33) hX d_Mo_busy_32 rfl ?_
    exact sx_iret hX hE h d_Mo_busy_33
  · replace h := sx_t h hc2
    refine sx_iconst (v := (-1)) (pc2 := 12) hX d_Mo_busy_11 (by decide) rfl ?_
    exact sx_iret hX hE h d_Mo_busy_12
def y_Mo_cut : MethodName := ⟨"SensorTreeModel", "cut", "(I)I"⟩
theorem hy_Mo_cut : y_Mo_cut.cls ≠ "java/lang/invoke/MethodHandle" ∧ y_Mo_cut.cls ≠ "java/lang/invoke/VarHandle" ∧ (parseMethodDescriptor y_Mo_cut.desc).map (fun d => d.parameters.length) = some 1 := by decide +kernel
theorem d_Mo_cut_0 : decode prog_13_method_97_code 0 = .ok (.aload_n 0, 1) := by decide +kernel
theorem d_Mo_cut_1 : decode prog_13_method_97_code 1 = .ok (.iload_n 1, 1) := by decide +kernel
theorem d_Mo_cut_2 : decode prog_13_method_97_code 2 = .ok (.invokevirtual 326, 3) := by decide +kernel
theorem d_Mo_cut_5 : decode prog_13_method_97_code 5 = .ok (.ifCond .eq 17, 3) := by decide +kernel
theorem d_Mo_cut_8 : decode prog_13_method_97_code 8 = .ok (.aload_n 0, 1) := by decide +kernel
theorem d_Mo_cut_9 : decode prog_13_method_97_code 9 = .ok (.getfield 68, 3) := by decide +kernel
theorem d_Mo_cut_12 : decode prog_13_method_97_code 12 = .ok (.bipush 8, 2) := by decide +kernel
theorem d_Mo_cut_14 : decode prog_13_method_97_code 14 = .ok (.iaload, 1) := by decide +kernel
theorem d_Mo_cut_15 : decode prog_13_method_97_code 15 = .ok (.iload_n 1, 1) := by decide +kernel
theorem d_Mo_cut_16 : decode prog_13_method_97_code 16 = .ok (.ishr, 1) := by decide +kernel
theorem d_Mo_cut_17 : decode prog_13_method_97_code 17 = .ok (.iconst 1, 1) := by decide +kernel
theorem d_Mo_cut_18 : decode prog_13_method_97_code 18 = .ok (.iand, 1) := by decide +kernel
theorem d_Mo_cut_19 : decode prog_13_method_97_code 19 = .ok (.ifCond .ne 5, 3) := by decide +kernel
theorem d_Mo_cut_22 : decode prog_13_method_97_code 22 = .ok (.iconst (-1), 1) := by decide +kernel
theorem d_Mo_cut_23 : decode prog_13_method_97_code 23 = .ok (.ireturn, 1) := by decide +kernel
theorem d_Mo_cut_24 : decode prog_13_method_97_code 24 = .ok (.aload_n 0, 1) := by decide +kernel
theorem d_Mo_cut_25 : decode prog_13_method_97_code 25 = .ok (.invokevirtual 317, 3) := by decide +kernel
theorem d_Mo_cut_28 : decode prog_13_method_97_code 28 = .ok (.aload_n 0, 1) := by decide +kernel
theorem d_Mo_cut_29 : decode prog_13_method_97_code 29 = .ok (.iload_n 1, 1) := by decide +kernel
theorem d_Mo_cut_30 : decode prog_13_method_97_code 30 = .ok (.invokevirtual 344, 3) := by decide +kernel
theorem d_Mo_cut_33 : decode prog_13_method_97_code 33 = .ok (.iconst 0, 1) := by decide +kernel
theorem d_Mo_cut_34 : decode prog_13_method_97_code 34 = .ok (.istore_n 2, 1) := by decide +kernel
theorem d_Mo_cut_35 : decode prog_13_method_97_code 35 = .ok (.iconst 0, 1) := by decide +kernel
theorem d_Mo_cut_36 : decode prog_13_method_97_code 36 = .ok (.istore_n 3, 1) := by decide +kernel
theorem d_Mo_cut_37 : decode prog_13_method_97_code 37 = .ok (.iload_n 3, 1) := by decide +kernel
theorem d_Mo_cut_38 : decode prog_13_method_97_code 38 = .ok (.aload_n 0, 1) := by decide +kernel
theorem d_Mo_cut_39 : decode prog_13_method_97_code 39 = .ok (.getfield 40, 3) := by decide +kernel
theorem d_Mo_cut_42 : decode prog_13_method_97_code 42 = .ok (.aload_n 0, 1) := by decide +kernel
theorem d_Mo_cut_43 : decode prog_13_method_97_code 43 = .ok (.getfield 170, 3) := by decide +kernel
theorem d_Mo_cut_46 : decode prog_13_method_97_code 46 = .ok (.iaload, 1) := by decide +kernel
theorem d_Mo_cut_47 : decode prog_13_method_97_code 47 = .ok (.if_icmp .ge 24, 3) := by decide +kernel
theorem d_Mo_cut_50 : decode prog_13_method_97_code 50 = .ok (.aload_n 0, 1) := by decide +kernel
theorem d_Mo_cut_51 : decode prog_13_method_97_code 51 = .ok (.getfield 89, 3) := by decide +kernel
theorem d_Mo_cut_54 : decode prog_13_method_97_code 54 = .ok (.iload_n 3, 1) := by decide +kernel
theorem d_Mo_cut_55 : decode prog_13_method_97_code 55 = .ok (.iaload, 1) := by decide +kernel
theorem d_Mo_cut_56 : decode prog_13_method_97_code 56 = .ok (.sipush 9999, 3) := by decide +kernel
theorem d_Mo_cut_59 : decode prog_13_method_97_code 59 = .ok (.if_icmp .ne 6, 3) := by decide +kernel
theorem d_Mo_cut_62 : decode prog_13_method_97_code 62 = .ok (.iinc 2 1, 3) := by decide +kernel
theorem d_Mo_cut_65 : decode prog_13_method_97_code 65 = .ok (.iinc 3 1, 3) := by decide +kernel
theorem d_Mo_cut_68 : decode prog_13_method_97_code 68 = .ok (.goto (-31), 3) := by decide +kernel
theorem d_Mo_cut_71 : decode prog_13_method_97_code 71 = .ok (.aload_n 0, 1) := by decide +kernel
theorem d_Mo_cut_72 : decode prog_13_method_97_code 72 = .ok (.iconst (-1), 1) := by decide +kernel
theorem d_Mo_cut_73 : decode prog_13_method_97_code 73 = .ok (.invokevirtual 344, 3) := by decide +kernel
theorem d_Mo_cut_76 : decode prog_13_method_97_code 76 = .ok (.iconst 0, 1) := by decide +kernel
theorem d_Mo_cut_77 : decode prog_13_method_97_code 77 = .ok (.istore_n 3, 1) := by decide +kernel
theorem d_Mo_cut_78 : decode prog_13_method_97_code 78 = .ok (.iload_n 3, 1) := by decide +kernel
theorem d_Mo_cut_79 : decode prog_13_method_97_code 79 = .ok (.aload_n 0, 1) := by decide +kernel
theorem d_Mo_cut_80 : decode prog_13_method_97_code 80 = .ok (.getfield 40, 3) := by decide +kernel
theorem d_Mo_cut_83 : decode prog_13_method_97_code 83 = .ok (.aload_n 0, 1) := by decide +kernel
theorem d_Mo_cut_84 : decode prog_13_method_97_code 84 = .ok (.getfield 170, 3) := by decide +kernel
theorem d_Mo_cut_87 : decode prog_13_method_97_code 87 = .ok (.iaload, 1) := by decide +kernel
theorem d_Mo_cut_88 : decode prog_13_method_97_code 88 = .ok (.if_icmp .ge 24, 3) := by decide +kernel
theorem d_Mo_cut_91 : decode prog_13_method_97_code 91 = .ok (.aload_n 0, 1) := by decide +kernel
theorem d_Mo_cut_92 : decode prog_13_method_97_code 92 = .ok (.getfield 89, 3) := by decide +kernel
theorem d_Mo_cut_95 : decode prog_13_method_97_code 95 = .ok (.iload_n 3, 1) := by decide +kernel
theorem d_Mo_cut_96 : decode prog_13_method_97_code 96 = .ok (.iaload, 1) := by decide +kernel
theorem d_Mo_cut_97 : decode prog_13_method_97_code 97 = .ok (.sipush 9999, 3) := by decide +kernel
theorem d_Mo_cut_100 : decode prog_13_method_97_code 100 = .ok (.if_icmp .ne 6, 3) := by decide +kernel
theorem d_Mo_cut_103 : decode prog_13_method_97_code 103 = .ok (.iinc 2 (-1), 3) := by decide +kernel
theorem d_Mo_cut_106 : decode prog_13_method_97_code 106 = .ok (.iinc 3 1, 3) := by decide +kernel
theorem d_Mo_cut_109 : decode prog_13_method_97_code 109 = .ok (.goto (-31), 3) := by decide +kernel
theorem d_Mo_cut_112 : decode prog_13_method_97_code 112 = .ok (.iload_n 2, 1) := by decide +kernel
theorem d_Mo_cut_113 : decode prog_13_method_97_code 113 = .ok (.ireturn, 1) := by decide +kernel
def wp_Mo_cut_b106  (k78 : Int32 → Int32 → sx_M → sx_L → Prop) (Q : Int32 → sx_M → sx_L → Prop) (v2 : Int32) (v3 : Int32) (σ : sx_M) (τ : sx_L) : Prop := k78 v2 (v3 + 1) σ τ
def wp_Mo_cut_b78   (Q : Int32 → sx_M → sx_L → Prop) : Nat → Int32 → Int32 → sx_M → sx_L → Prop
  | 0, _, _, _, _ => False
  | f + 1, v2, v3, σ, τ => vp_in (σ 50 0 0 17) 2 ∧ (if σ 58 0 0 (σ 50 0 0 17).toNatClampNeg ≤ v3 then (Q v2 σ τ) else (vp_in v3 7 ∧ (if σ 74 0 0 v3.toNatClampNeg = 9999 then (wp_Mo_cut_b106 (wp_Mo_cut_b78 Q f) Q (v2 + (-1)) v3 σ τ) else (wp_Mo_cut_b106 (wp_Mo_cut_b78 Q f) Q v2 v3 σ τ))))
def wp_Mo_cut_b65  (k37 : Int32 → Int32 → sx_M → sx_L → Prop) (Q : Int32 → sx_M → sx_L → Prop) (v2 : Int32) (v3 : Int32) (σ : sx_M) (τ : sx_L) : Prop := k37 v2 (v3 + 1) σ τ
def wp_Mo_cut_b37   (Q : Int32 → sx_M → sx_L → Prop) : Nat → Int32 → Int32 → sx_M → sx_L → Prop
  | 0, _, _, _, _ => False
  | f + 1, v2, v3, σ, τ => vp_in (σ 50 0 0 17) 2 ∧ (if σ 58 0 0 (σ 50 0 0 17).toNatClampNeg ≤ v3 then (wp_Mo_finds (-1 : Int32) σ τ (fun σ7 τ7 => ∃ f78, wp_Mo_cut_b78 Q f78 v2 0 σ7 τ7)) else (vp_in v3 7 ∧ (if σ 74 0 0 v3.toNatClampNeg = 9999 then (wp_Mo_cut_b65 (wp_Mo_cut_b37 Q f) Q (v2 + 1) v3 σ τ) else (wp_Mo_cut_b65 (wp_Mo_cut_b37 Q f) Q v2 v3 σ τ))))
def wp_Mo_cut_b22   (Q : Int32 → sx_M → sx_L → Prop)  (σ : sx_M) (τ : sx_L) : Prop := Q (-1) σ τ
def wp_Mo_cut (x1 : Int32) (σ : sx_M) (τ : sx_L) (Q : Int32 → sx_M → sx_L → Prop) : Prop := wp_Mo_isLink x1 σ τ (fun r10 σ10 τ10 => if r10 = 0 then (wp_Mo_cut_b22 Q σ10 τ10) else (vp_in 8 643 ∧ (if ((σ10 67 0 0 (8 : Int32).toNatClampNeg) >>> (x1 &&& 31)) &&& 1 = 0 then (wp_Mo_cut_b22 Q σ10 τ10) else (wp_Mo_copies σ10 τ10 (fun σ14 τ14 => wp_Mo_finds x1 σ14 τ14 (fun σ15 τ15 => ∃ f37, wp_Mo_cut_b37 Q f37 0 0 σ15 τ15))))))
abbrev rm_Mo_cut : Room := { frames := 3, cells := 0, slots := 0, locals := 70 }
set_option maxRecDepth 100000 in
set_option maxHeartbeats 4000000 in
theorem g_Mo_cut_b106 {l : Launch} {K : sx_K} {X : sx_T}  {k78 : Int32 → Int32 → sx_M → sx_L → Prop} {Q : Int32 → sx_M → sx_L → Prop} (hX : sx_C X K prog_13_method_97_code 4 "SensorTreeModel" (some .int) rm_Mo_cut l) (hK : kx_F K) (hE : sx_E X K (sx_Qi K Q))  (hk78 : ∀ (v2 : Int32) (v3 : Int32) (σ : sx_M) (τ : sx_L) , k78 v2 v3 σ τ → sx_G X K 4 78 [(0, .ref (K.2.2.1 50 0 0)), (2, .int v2), (3, .int v3)] [] (sx_H K σ τ)) (v2 : Int32) (v3 : Int32) (σ : sx_M) (τ : sx_L)  (h : wp_Mo_cut_b106 k78 Q  v2 v3 σ τ) : sx_G X K 4 106 [(0, .ref (K.2.2.1 50 0 0)), (2, .int v2), (3, .int v3)] [] (sx_H K σ τ) := by
  unfold wp_Mo_cut_b106 at h
  refine sx_iinc (pc2 := 109) hX 2 _ [(0, .ref (K.2.2.1 50 0 0)), (2, .int v2), (3, .int (v3 + 1))] [1, 2, 0] d_Mo_cut_106 rfl (v3 + 1) rfl (by decide) rfl rfl rfl ?_
  refine sx_goto (tgt := 78) hX d_Mo_cut_109 (by decide) ?_
  exact hk78 v2 (v3 + 1) _ _ h
set_option maxRecDepth 100000 in
set_option maxHeartbeats 4000000 in
theorem g_Mo_cut_b78 {l : Launch} {K : sx_K} {X : sx_T}   {Q : Int32 → sx_M → sx_L → Prop} (hX : sx_C X K prog_13_method_97_code 4 "SensorTreeModel" (some .int) rm_Mo_cut l) (hK : kx_F K) (hE : sx_E X K (sx_Qi K Q))  : ∀ (f : Nat) (v2 : Int32) (v3 : Int32) (σ : sx_M) (τ : sx_L) , wp_Mo_cut_b78 Q f v2 v3 σ τ → sx_G X K 4 78 [(0, .ref (K.2.2.1 50 0 0)), (2, .int v2), (3, .int v3)] [] (sx_H K σ τ) := by
  intro f
  induction f with
  | zero => intro v2 v3 σ τ h; exact (show False from h).elim
  | succ f ih =>
    intro v2 v3 σ τ h
    rw [wp_Mo_cut_b78] at h
    refine sx_iload_n (pc2 := 79) hX 2 d_Mo_cut_78 rfl rfl rfl ?_
    refine sx_aload_n (pc2 := 80) hX 0 d_Mo_cut_79 rfl rfl rfl ?_
    refine fg_Mo_40 (pc2 := 83) hX (kr_50 hK) d_Mo_cut_80 rfl ?_
    refine sx_aload_n (pc2 := 84) hX 0 d_Mo_cut_83 rfl rfl rfl ?_
    refine fg_Mo_170 (pc2 := 87) hX (kr_50 hK) d_Mo_cut_84 rfl ?_
    obtain ⟨hc1, h⟩ := h
    refine sx_iald (pc2 := 88) hX (kr_58 hK) rfl hc1 d_Mo_cut_87 rfl ?_
    refine sx_icmp_ge (tgt := 112) (pc2 := 91) hX d_Mo_cut_88 (by decide) rfl (fun hc2 => ?_) (fun hc2 => ?_)
    · replace h := sx_t h hc2
      refine sx_iload_n (pc2 := 113) hX 1 d_Mo_cut_112 rfl rfl rfl ?_
      exact sx_iret hX hE h d_Mo_cut_113
    · replace h := sx_f h hc2
      refine sx_aload_n (pc2 := 92) hX 0 d_Mo_cut_91 rfl rfl rfl ?_
      refine fg_Mo_89 (pc2 := 95) hX (kr_50 hK) d_Mo_cut_92 rfl ?_
      refine sx_iload_n (pc2 := 96) hX 2 d_Mo_cut_95 rfl rfl rfl ?_
      obtain ⟨hc3, h⟩ := h
      refine sx_iald (pc2 := 97) hX (kr_74 hK) rfl hc3 d_Mo_cut_96 rfl ?_
      refine sx_sipush (v := 9999) (pc2 := 100) hX d_Mo_cut_97 (by decide) rfl ?_
      refine sx_icmp_ne (tgt := 106) (pc2 := 103) hX d_Mo_cut_100 (by decide) rfl (fun hc4 => ?_) (fun hc4 => ?_)
      · replace h := sx_f h hc4
        exact g_Mo_cut_b106 hX hK hE  ih v2 v3 _ _ h
      · replace h := sx_t h hc4
        refine sx_iinc (pc2 := 106) hX 1 _ [(0, .ref (K.2.2.1 50 0 0)), (2, .int (v2 + (-1))), (3, .int v3)] [1, 0, 2] d_Mo_cut_103 rfl (v2 + (-1)) rfl (by decide) rfl rfl rfl ?_
        exact g_Mo_cut_b106 hX hK hE  ih (v2 + (-1)) v3 _ _ h
set_option maxRecDepth 100000 in
set_option maxHeartbeats 4000000 in
theorem g_Mo_cut_b65 {l : Launch} {K : sx_K} {X : sx_T}  {k37 : Int32 → Int32 → sx_M → sx_L → Prop} {Q : Int32 → sx_M → sx_L → Prop} (hX : sx_C X K prog_13_method_97_code 4 "SensorTreeModel" (some .int) rm_Mo_cut l) (hK : kx_F K) (hE : sx_E X K (sx_Qi K Q))  (hk37 : ∀ (v2 : Int32) (v3 : Int32) (σ : sx_M) (τ : sx_L) , k37 v2 v3 σ τ → sx_G X K 4 37 [(0, .ref (K.2.2.1 50 0 0)), (2, .int v2), (3, .int v3)] [] (sx_H K σ τ)) (v2 : Int32) (v3 : Int32) (σ : sx_M) (τ : sx_L)  (h : wp_Mo_cut_b65 k37 Q  v2 v3 σ τ) : sx_G X K 4 65 [(0, .ref (K.2.2.1 50 0 0)), (2, .int v2), (3, .int v3)] [] (sx_H K σ τ) := by
  unfold wp_Mo_cut_b65 at h
  refine sx_iinc (pc2 := 68) hX 2 _ [(0, .ref (K.2.2.1 50 0 0)), (2, .int v2), (3, .int (v3 + 1))] [1, 2, 0] d_Mo_cut_65 rfl (v3 + 1) rfl (by decide) rfl rfl rfl ?_
  refine sx_goto (tgt := 37) hX d_Mo_cut_68 (by decide) ?_
  exact hk37 v2 (v3 + 1) _ _ h
set_option maxRecDepth 100000 in
set_option maxHeartbeats 4000000 in
theorem g_Mo_cut_b37 {l : Launch} {K : sx_K} {X : sx_T}   {Q : Int32 → sx_M → sx_L → Prop} (hX : sx_C X K prog_13_method_97_code 4 "SensorTreeModel" (some .int) rm_Mo_cut l) (hK : kx_F K) (hE : sx_E X K (sx_Qi K Q))  : ∀ (f : Nat) (v2 : Int32) (v3 : Int32) (σ : sx_M) (τ : sx_L) , wp_Mo_cut_b37 Q f v2 v3 σ τ → sx_G X K 4 37 [(0, .ref (K.2.2.1 50 0 0)), (2, .int v2), (3, .int v3)] [] (sx_H K σ τ) := by
  intro f
  induction f with
  | zero => intro v2 v3 σ τ h; exact (show False from h).elim
  | succ f ih =>
    intro v2 v3 σ τ h
    rw [wp_Mo_cut_b37] at h
    refine sx_iload_n (pc2 := 38) hX 2 d_Mo_cut_37 rfl rfl rfl ?_
    refine sx_aload_n (pc2 := 39) hX 0 d_Mo_cut_38 rfl rfl rfl ?_
    refine fg_Mo_40 (pc2 := 42) hX (kr_50 hK) d_Mo_cut_39 rfl ?_
    refine sx_aload_n (pc2 := 43) hX 0 d_Mo_cut_42 rfl rfl rfl ?_
    refine fg_Mo_170 (pc2 := 46) hX (kr_50 hK) d_Mo_cut_43 rfl ?_
    obtain ⟨hc5, h⟩ := h
    refine sx_iald (pc2 := 47) hX (kr_58 hK) rfl hc5 d_Mo_cut_46 rfl ?_
    refine sx_icmp_ge (tgt := 71) (pc2 := 50) hX d_Mo_cut_47 (by decide) rfl (fun hc6 => ?_) (fun hc6 => ?_)
    · replace h := sx_t h hc6
      refine sx_aload_n (pc2 := 72) hX 0 d_Mo_cut_71 rfl rfl rfl ?_
      refine sx_iconst (v := (-1)) (pc2 := 73) hX d_Mo_cut_72 (by decide) rfl ?_
      refine cl_Mo_344 (pc2 := 76) hX hK h  ⟨Nat.le_of_ble_eq_true rfl, Nat.le_of_ble_eq_true rfl⟩ (Nat.le_of_ble_eq_true rfl) d_Mo_cut_73 rfl (fun σ7 τ7 h => ?_)
      refine sx_iconst (v := 0) (pc2 := 77) hX d_Mo_cut_76 (by decide) rfl ?_
      refine sx_istore_n (pc2 := 78) hX _ [(0, .ref (K.2.2.1 50 0 0)), (2, .int v2), (3, .int 0)] [1, 2, 0] d_Mo_cut_77 rfl (by decide) rfl rfl rfl ?_
      obtain ⟨f78, h⟩ := h
      exact g_Mo_cut_b78 hX hK hE   f78 v2 0 _ _ h
    · replace h := sx_f h hc6
      refine sx_aload_n (pc2 := 51) hX 0 d_Mo_cut_50 rfl rfl rfl ?_
      refine fg_Mo_89 (pc2 := 54) hX (kr_50 hK) d_Mo_cut_51 rfl ?_
      refine sx_iload_n (pc2 := 55) hX 2 d_Mo_cut_54 rfl rfl rfl ?_
      obtain ⟨hc8, h⟩ := h
      refine sx_iald (pc2 := 56) hX (kr_74 hK) rfl hc8 d_Mo_cut_55 rfl ?_
      refine sx_sipush (v := 9999) (pc2 := 59) hX d_Mo_cut_56 (by decide) rfl ?_
      refine sx_icmp_ne (tgt := 65) (pc2 := 62) hX d_Mo_cut_59 (by decide) rfl (fun hc9 => ?_) (fun hc9 => ?_)
      · replace h := sx_f h hc9
        exact g_Mo_cut_b65 hX hK hE  ih v2 v3 _ _ h
      · replace h := sx_t h hc9
        refine sx_iinc (pc2 := 65) hX 1 _ [(0, .ref (K.2.2.1 50 0 0)), (2, .int (v2 + 1)), (3, .int v3)] [1, 0, 2] d_Mo_cut_62 rfl (v2 + 1) rfl (by decide) rfl rfl rfl ?_
        exact g_Mo_cut_b65 hX hK hE  ih (v2 + 1) v3 _ _ h
set_option maxRecDepth 100000 in
set_option maxHeartbeats 4000000 in
theorem g_Mo_cut_b22 {l : Launch} {K : sx_K} {X : sx_T}   {Q : Int32 → sx_M → sx_L → Prop} (hX : sx_C X K prog_13_method_97_code 4 "SensorTreeModel" (some .int) rm_Mo_cut l) (hK : kx_F K) (hE : sx_E X K (sx_Qi K Q))   (σ : sx_M) (τ : sx_L)  (h : wp_Mo_cut_b22 Q  σ τ) : sx_G X K 4 22 [] [] (sx_H K σ τ) := by
  unfold wp_Mo_cut_b22 at h
  refine sx_iconst (v := (-1)) (pc2 := 23) hX d_Mo_cut_22 (by decide) rfl ?_
  exact sx_iret hX hE h d_Mo_cut_23
set_option maxRecDepth 100000 in
set_option maxHeartbeats 4000000 in
theorem c_Mo_cut {l : Launch} {K : sx_K} (hK : kx_F K) (x1 : Int32) (σ : sx_M) (τ : sx_L) (Q : Int32 → sx_M → sx_L → Prop)  (h : wp_Mo_cut x1 σ τ Q) : Met l y_Mo_cut (sx_wd y_Mo_cut prog_13_method_97_code 4 (some .int)) rm_Mo_cut (sx_Pc K [.ref (K.2.2.1 50 0 0), .int x1] σ τ) (sx_Qi K Q) 0 0 (sx_A K) := by
  refine sx_met (by decide) (Nat.le_of_ble_eq_true rfl) (fun X hX hE => ?_)
  replace hX : sx_C X K prog_13_method_97_code 4 "SensorTreeModel" (some .int) rm_Mo_cut l := hX
  show sx_G X K 4 0 [(0, .ref (K.2.2.1 50 0 0)), (1, .int x1)] [] (sx_H K σ τ)
  unfold wp_Mo_cut at h
  refine sx_aload_n (pc2 := 1) hX 0 d_Mo_cut_0 rfl rfl rfl ?_
  refine sx_iload_n (pc2 := 2) hX 1 d_Mo_cut_1 rfl rfl rfl ?_
  refine cl_Mo_326 (pc2 := 5) hX hK h  ⟨Nat.le_of_ble_eq_true rfl, Nat.le_of_ble_eq_true rfl⟩ (Nat.le_of_ble_eq_true rfl) d_Mo_cut_2 rfl (fun r10 σ10 τ10 h => ?_)
  refine sx_if_eq (tgt := 22) (pc2 := 8) hX d_Mo_cut_5 (by decide) rfl (fun hc11 => ?_) (fun hc11 => ?_)
  · replace h := sx_t h hc11
    refine sx_sub [] [] rfl ?_
    exact g_Mo_cut_b22 hX hK hE   _ _ h
  · replace h := sx_f h hc11
    refine sx_aload_n (pc2 := 9) hX 0 d_Mo_cut_8 rfl rfl rfl ?_
    refine fg_Mo_68 (pc2 := 12) hX (kr_50 hK) d_Mo_cut_9 rfl ?_
    refine sx_bipush (v := 8) (pc2 := 14) hX d_Mo_cut_12 (by decide) rfl ?_
    obtain ⟨hc12, h⟩ := h
    refine sx_iald (pc2 := 15) hX (kr_67 hK) rfl hc12 d_Mo_cut_14 rfl ?_
    refine sx_iload_n (pc2 := 16) hX 1 d_Mo_cut_15 rfl rfl rfl ?_
    refine sx_ishr (pc2 := 17) hX d_Mo_cut_16 rfl ?_
    refine sx_iconst (v := 1) (pc2 := 18) hX d_Mo_cut_17 (by decide) rfl ?_
    refine sx_iand (pc2 := 19) hX d_Mo_cut_18 rfl ?_
    refine sx_if_ne (tgt := 24) (pc2 := 22) hX d_Mo_cut_19 (by decide) rfl (fun hc13 => ?_) (fun hc13 => ?_)
    · replace h := sx_f h hc13
      refine sx_aload_n (pc2 := 25) hX 0 d_Mo_cut_24 rfl rfl rfl ?_
      refine cl_Mo_317 (pc2 := 28) hX hK h  ⟨Nat.le_of_ble_eq_true rfl, Nat.le_of_ble_eq_true rfl⟩ (Nat.le_of_ble_eq_true rfl) d_Mo_cut_25 rfl (fun σ14 τ14 h => ?_)
      refine sx_aload_n (pc2 := 29) hX 0 d_Mo_cut_28 rfl rfl rfl ?_
      refine sx_iload_n (pc2 := 30) hX 1 d_Mo_cut_29 rfl rfl rfl ?_
      refine cl_Mo_344 (pc2 := 33) hX hK h  ⟨Nat.le_of_ble_eq_true rfl, Nat.le_of_ble_eq_true rfl⟩ (Nat.le_of_ble_eq_true rfl) d_Mo_cut_30 rfl (fun σ15 τ15 h => ?_)
      refine sx_iconst (v := 0) (pc2 := 34) hX d_Mo_cut_33 (by decide) rfl ?_
      refine sx_istore_n (pc2 := 35) hX _ [(0, .ref (K.2.2.1 50 0 0)), (1, .int x1), (2, .int 0)] [1, 2, 0] d_Mo_cut_34 rfl (by decide) rfl rfl rfl ?_
      refine sx_iconst (v := 0) (pc2 := 36) hX d_Mo_cut_35 (by decide) rfl ?_
      refine sx_istore_n (pc2 := 37) hX _ [(0, .ref (K.2.2.1 50 0 0)), (1, .int x1), (2, .int 0), (3, .int 0)] [1, 2, 3, 0] d_Mo_cut_36 rfl (by decide) rfl rfl rfl ?_
      refine sx_sub [(0, .ref (K.2.2.1 50 0 0)), (2, .int 0), (3, .int 0)] [0, 2, 3] rfl ?_
      obtain ⟨f37, h⟩ := h
      exact g_Mo_cut_b37 hX hK hE   f37 0 0 _ _ h
    · replace h := sx_t h hc13
      refine sx_sub [] [] rfl ?_
      exact g_Mo_cut_b22 hX hK hE   _ _ h
def y_Mo_needs : MethodName := ⟨"SensorTreeModel", "needs", "(I)I"⟩
theorem hy_Mo_needs : y_Mo_needs.cls ≠ "java/lang/invoke/MethodHandle" ∧ y_Mo_needs.cls ≠ "java/lang/invoke/VarHandle" ∧ (parseMethodDescriptor y_Mo_needs.desc).map (fun d => d.parameters.length) = some 1 := by decide +kernel
theorem d_Mo_needs_0 : decode prog_13_method_98_code 0 = .ok (.aload_n 0, 1) := by decide +kernel
theorem d_Mo_needs_1 : decode prog_13_method_98_code 1 = .ok (.iload_n 1, 1) := by decide +kernel
theorem d_Mo_needs_2 : decode prog_13_method_98_code 2 = .ok (.invokevirtual 341, 3) := by decide +kernel
theorem d_Mo_needs_5 : decode prog_13_method_98_code 5 = .ok (.ifCond .ne 5, 3) := by decide +kernel
theorem d_Mo_needs_8 : decode prog_13_method_98_code 8 = .ok (.iconst (-1), 1) := by decide +kernel
theorem d_Mo_needs_9 : decode prog_13_method_98_code 9 = .ok (.ireturn, 1) := by decide +kernel
theorem d_Mo_needs_10 : decode prog_13_method_98_code 10 = .ok (.aload_n 0, 1) := by decide +kernel
theorem d_Mo_needs_11 : decode prog_13_method_98_code 11 = .ok (.invokevirtual 317, 3) := by decide +kernel
theorem d_Mo_needs_14 : decode prog_13_method_98_code 14 = .ok (.aload_n 0, 1) := by decide +kernel
theorem d_Mo_needs_15 : decode prog_13_method_98_code 15 = .ok (.iconst (-1), 1) := by decide +kernel
theorem d_Mo_needs_16 : decode prog_13_method_98_code 16 = .ok (.invokevirtual 344, 3) := by decide +kernel
theorem d_Mo_needs_19 : decode prog_13_method_98_code 19 = .ok (.aload_n 0, 1) := by decide +kernel
theorem d_Mo_needs_20 : decode prog_13_method_98_code 20 = .ok (.getfield 89, 3) := by decide +kernel
theorem d_Mo_needs_23 : decode prog_13_method_98_code 23 = .ok (.iload_n 1, 1) := by decide +kernel
theorem d_Mo_needs_24 : decode prog_13_method_98_code 24 = .ok (.iaload, 1) := by decide +kernel
theorem d_Mo_needs_25 : decode prog_13_method_98_code 25 = .ok (.istore_n 2, 1) := by decide +kernel
theorem d_Mo_needs_26 : decode prog_13_method_98_code 26 = .ok (.iconst 0, 1) := by decide +kernel
theorem d_Mo_needs_27 : decode prog_13_method_98_code 27 = .ok (.istore_n 3, 1) := by decide +kernel
theorem d_Mo_needs_28 : decode prog_13_method_98_code 28 = .ok (.iconst 0, 1) := by decide +kernel
theorem d_Mo_needs_29 : decode prog_13_method_98_code 29 = .ok (.istore 4, 2) := by decide +kernel
theorem d_Mo_needs_31 : decode prog_13_method_98_code 31 = .ok (.iload 4, 2) := by decide +kernel
theorem d_Mo_needs_33 : decode prog_13_method_98_code 33 = .ok (.aload_n 0, 1) := by decide +kernel
theorem d_Mo_needs_34 : decode prog_13_method_98_code 34 = .ok (.getfield 43, 3) := by decide +kernel
theorem d_Mo_needs_37 : decode prog_13_method_98_code 37 = .ok (.aload_n 0, 1) := by decide +kernel
theorem d_Mo_needs_38 : decode prog_13_method_98_code 38 = .ok (.getfield 170, 3) := by decide +kernel
theorem d_Mo_needs_41 : decode prog_13_method_98_code 41 = .ok (.iaload, 1) := by decide +kernel
theorem d_Mo_needs_42 : decode prog_13_method_98_code 42 = .ok (.if_icmp .ge 44, 3) := by decide +kernel
theorem d_Mo_needs_45 : decode prog_13_method_98_code 45 = .ok (.aload_n 0, 1) := by decide +kernel
theorem d_Mo_needs_46 : decode prog_13_method_98_code 46 = .ok (.iload 4, 2) := by decide +kernel
theorem d_Mo_needs_48 : decode prog_13_method_98_code 48 = .ok (.invokevirtual 249, 3) := by decide +kernel
theorem d_Mo_needs_51 : decode prog_13_method_98_code 51 = .ok (.ifCond .ne 6, 3) := by decide +kernel
theorem d_Mo_needs_54 : decode prog_13_method_98_code 54 = .ok (.goto 26, 3) := by decide +kernel
theorem d_Mo_needs_57 : decode prog_13_method_98_code 57 = .ok (.aload_n 0, 1) := by decide +kernel
theorem d_Mo_needs_58 : decode prog_13_method_98_code 58 = .ok (.iload 4, 2) := by decide +kernel
theorem d_Mo_needs_60 : decode prog_13_method_98_code 60 = .ok (.invokevirtual 344, 3) := by decide +kernel
theorem d_Mo_needs_63 : decode prog_13_method_98_code 63 = .ok (.aload_n 0, 1) := by decide +kernel
theorem d_Mo_needs_64 : decode prog_13_method_98_code 64 = .ok (.getfield 89, 3) := by decide +kernel
theorem d_Mo_needs_67 : decode prog_13_method_98_code 67 = .ok (.iload_n 1, 1) := by decide +kernel
theorem d_Mo_needs_68 : decode prog_13_method_98_code 68 = .ok (.iaload, 1) := by decide +kernel
theorem d_Mo_needs_69 : decode prog_13_method_98_code 69 = .ok (.iload_n 2, 1) := by decide +kernel
theorem d_Mo_needs_70 : decode prog_13_method_98_code 70 = .ok (.if_icmp .le 10, 3) := by decide +kernel
theorem d_Mo_needs_73 : decode prog_13_method_98_code 73 = .ok (.iload_n 3, 1) := by decide +kernel
theorem d_Mo_needs_74 : decode prog_13_method_98_code 74 = .ok (.iconst 1, 1) := by decide +kernel
theorem d_Mo_needs_75 : decode prog_13_method_98_code 75 = .ok (.iload 4, 2) := by decide +kernel
theorem d_Mo_needs_77 : decode prog_13_method_98_code 77 = .ok (.ishl, 1) := by decide +kernel
theorem d_Mo_needs_78 : decode prog_13_method_98_code 78 = .ok (.ior, 1) := by decide +kernel
theorem d_Mo_needs_79 : decode prog_13_method_98_code 79 = .ok (.istore_n 3, 1) := by decide +kernel
theorem d_Mo_needs_80 : decode prog_13_method_98_code 80 = .ok (.iinc 4 1, 3) := by decide +kernel
theorem d_Mo_needs_83 : decode prog_13_method_98_code 83 = .ok (.goto (-52), 3) := by decide +kernel
theorem d_Mo_needs_86 : decode prog_13_method_98_code 86 = .ok (.iload_n 3, 1) := by decide +kernel
theorem d_Mo_needs_87 : decode prog_13_method_98_code 87 = .ok (.ireturn, 1) := by decide +kernel
def wp_Mo_needs_b80  (k31 : Int32 → Int32 → Int32 → Int32 → sx_M → sx_L → Prop) (Q : Int32 → sx_M → sx_L → Prop) (v1 : Int32) (v2 : Int32) (v3 : Int32) (v4 : Int32) (σ : sx_M) (τ : sx_L) : Prop := k31 v1 v2 v3 (v4 + 1) σ τ
def wp_Mo_needs_b31   (Q : Int32 → sx_M → sx_L → Prop) : Nat → Int32 → Int32 → Int32 → Int32 → sx_M → sx_L → Prop
  | 0, _, _, _, _, _, _ => False
  | f + 1, v1, v2, v3, v4, σ, τ => vp_in (σ 50 0 0 17) 2 ∧ (if σ 59 0 0 (σ 50 0 0 17).toNatClampNeg ≤ v4 then (Q v3 σ τ) else (wp_Mo_isUp v4 σ τ (fun r3 σ3 τ3 => if r3 = 0 then (wp_Mo_needs_b80 (wp_Mo_needs_b31 Q f) Q v1 v2 v3 v4 σ3 τ3) else (wp_Mo_finds v4 σ3 τ3 (fun σ5 τ5 => vp_in v1 7 ∧ (if σ5 74 0 0 v1.toNatClampNeg ≤ v2 then (wp_Mo_needs_b80 (wp_Mo_needs_b31 Q f) Q v1 v2 v3 v4 σ5 τ5) else (wp_Mo_needs_b80 (wp_Mo_needs_b31 Q f) Q v1 v2 (v3 ||| (1 <<< (v4 &&& 31))) v4 σ5 τ5)))))))
def wp_Mo_needs (x1 : Int32) (σ : sx_M) (τ : sx_L) (Q : Int32 → sx_M → sx_L → Prop) : Prop := wp_Mo_isNowOn x1 σ τ (fun r8 σ8 τ8 => if r8 = 0 then (Q (-1) σ8 τ8) else (wp_Mo_copies σ8 τ8 (fun σ10 τ10 => wp_Mo_finds (-1 : Int32) σ10 τ10 (fun σ11 τ11 => vp_in x1 7 ∧ (∃ f31, wp_Mo_needs_b31 Q f31 x1 (σ11 74 0 0 x1.toNatClampNeg) 0 0 σ11 τ11)))))
abbrev rm_Mo_needs : Room := { frames := 3, cells := 0, slots := 0, locals := 70 }
set_option maxRecDepth 100000 in
set_option maxHeartbeats 4000000 in
theorem g_Mo_needs_b80 {l : Launch} {K : sx_K} {X : sx_T}  {k31 : Int32 → Int32 → Int32 → Int32 → sx_M → sx_L → Prop} {Q : Int32 → sx_M → sx_L → Prop} (hX : sx_C X K prog_13_method_98_code 5 "SensorTreeModel" (some .int) rm_Mo_needs l) (hK : kx_F K) (hE : sx_E X K (sx_Qi K Q))  (hk31 : ∀ (v1 : Int32) (v2 : Int32) (v3 : Int32) (v4 : Int32) (σ : sx_M) (τ : sx_L) , k31 v1 v2 v3 v4 σ τ → sx_G X K 5 31 [(0, .ref (K.2.2.1 50 0 0)), (1, .int v1), (2, .int v2), (3, .int v3), (4, .int v4)] [] (sx_H K σ τ)) (v1 : Int32) (v2 : Int32) (v3 : Int32) (v4 : Int32) (σ : sx_M) (τ : sx_L)  (h : wp_Mo_needs_b80 k31 Q  v1 v2 v3 v4 σ τ) : sx_G X K 5 80 [(0, .ref (K.2.2.1 50 0 0)), (1, .int v1), (2, .int v2), (3, .int v3), (4, .int v4)] [] (sx_H K σ τ) := by
  unfold wp_Mo_needs_b80 at h
  refine sx_iinc (pc2 := 83) hX 4 _ [(0, .ref (K.2.2.1 50 0 0)), (1, .int v1), (2, .int v2), (3, .int v3), (4, .int (v4 + 1))] [1, 2, 3, 4, 0] d_Mo_needs_80 rfl (v4 + 1) rfl (by decide) rfl rfl rfl ?_
  refine sx_goto (tgt := 31) hX d_Mo_needs_83 (by decide) ?_
  exact hk31 v1 v2 v3 (v4 + 1) _ _ h
set_option maxRecDepth 100000 in
set_option maxHeartbeats 4000000 in
theorem g_Mo_needs_b31 {l : Launch} {K : sx_K} {X : sx_T}   {Q : Int32 → sx_M → sx_L → Prop} (hX : sx_C X K prog_13_method_98_code 5 "SensorTreeModel" (some .int) rm_Mo_needs l) (hK : kx_F K) (hE : sx_E X K (sx_Qi K Q))  : ∀ (f : Nat) (v1 : Int32) (v2 : Int32) (v3 : Int32) (v4 : Int32) (σ : sx_M) (τ : sx_L) , wp_Mo_needs_b31 Q f v1 v2 v3 v4 σ τ → sx_G X K 5 31 [(0, .ref (K.2.2.1 50 0 0)), (1, .int v1), (2, .int v2), (3, .int v3), (4, .int v4)] [] (sx_H K σ τ) := by
  intro f
  induction f with
  | zero => intro v1 v2 v3 v4 σ τ h; exact (show False from h).elim
  | succ f ih =>
    intro v1 v2 v3 v4 σ τ h
    rw [wp_Mo_needs_b31] at h
    refine sx_iload (pc2 := 33) hX 4 d_Mo_needs_31 rfl rfl ?_
    refine sx_aload_n (pc2 := 34) hX 0 d_Mo_needs_33 rfl rfl rfl ?_
    refine fg_Mo_43 (pc2 := 37) hX (kr_50 hK) d_Mo_needs_34 rfl ?_
    refine sx_aload_n (pc2 := 38) hX 0 d_Mo_needs_37 rfl rfl rfl ?_
    refine fg_Mo_170 (pc2 := 41) hX (kr_50 hK) d_Mo_needs_38 rfl ?_
    obtain ⟨hc1, h⟩ := h
    refine sx_iald (pc2 := 42) hX (kr_59 hK) rfl hc1 d_Mo_needs_41 rfl ?_
    refine sx_icmp_ge (tgt := 86) (pc2 := 45) hX d_Mo_needs_42 (by decide) rfl (fun hc2 => ?_) (fun hc2 => ?_)
    · replace h := sx_t h hc2
      refine sx_iload_n (pc2 := 87) hX 3 d_Mo_needs_86 rfl rfl rfl ?_
      exact sx_iret hX hE h d_Mo_needs_87
    · replace h := sx_f h hc2
      refine sx_aload_n (pc2 := 46) hX 0 d_Mo_needs_45 rfl rfl rfl ?_
      refine sx_iload (pc2 := 48) hX 4 d_Mo_needs_46 rfl rfl ?_
      refine cl_Mo_249 (pc2 := 51) hX hK h  ⟨Nat.le_of_ble_eq_true rfl, Nat.le_of_ble_eq_true rfl⟩ (Nat.le_of_ble_eq_true rfl) d_Mo_needs_48 rfl (fun r3 σ3 τ3 h => ?_)
      refine sx_if_ne (tgt := 57) (pc2 := 54) hX d_Mo_needs_51 (by decide) rfl (fun hc4 => ?_) (fun hc4 => ?_)
      · replace h := sx_f h hc4
        refine sx_aload_n (pc2 := 58) hX 0 d_Mo_needs_57 rfl rfl rfl ?_
        refine sx_iload (pc2 := 60) hX 4 d_Mo_needs_58 rfl rfl ?_
        refine cl_Mo_344 (pc2 := 63) hX hK h  ⟨Nat.le_of_ble_eq_true rfl, Nat.le_of_ble_eq_true rfl⟩ (Nat.le_of_ble_eq_true rfl) d_Mo_needs_60 rfl (fun σ5 τ5 h => ?_)
        refine sx_aload_n (pc2 := 64) hX 0 d_Mo_needs_63 rfl rfl rfl ?_
        refine fg_Mo_89 (pc2 := 67) hX (kr_50 hK) d_Mo_needs_64 rfl ?_
        refine sx_iload_n (pc2 := 68) hX 1 d_Mo_needs_67 rfl rfl rfl ?_
        obtain ⟨hc6, h⟩ := h
        refine sx_iald (pc2 := 69) hX (kr_74 hK) rfl hc6 d_Mo_needs_68 rfl ?_
        refine sx_iload_n (pc2 := 70) hX 2 d_Mo_needs_69 rfl rfl rfl ?_
        refine sx_icmp_le (tgt := 80) (pc2 := 73) hX d_Mo_needs_70 (by decide) rfl (fun hc7 => ?_) (fun hc7 => ?_)
        · replace h := sx_t h hc7
          exact g_Mo_needs_b80 hX hK hE  ih v1 v2 v3 v4 _ _ h
        · replace h := sx_f h hc7
          refine sx_iload_n (pc2 := 74) hX 3 d_Mo_needs_73 rfl rfl rfl ?_
          refine sx_iconst (v := 1) (pc2 := 75) hX d_Mo_needs_74 (by decide) rfl ?_
          refine sx_iload (pc2 := 77) hX 4 d_Mo_needs_75 rfl rfl ?_
          refine sx_ishl (pc2 := 78) hX d_Mo_needs_77 rfl ?_
          refine sx_ior (pc2 := 79) hX d_Mo_needs_78 rfl ?_
          refine sx_istore_n (pc2 := 80) hX _ [(0, .ref (K.2.2.1 50 0 0)), (1, .int v1), (2, .int v2), (3, .int (v3 ||| (1 <<< (v4 &&& 31)))), (4, .int v4)] [1, 2, 3, 0, 4] d_Mo_needs_79 rfl (by decide) rfl rfl rfl ?_
          exact g_Mo_needs_b80 hX hK hE  ih v1 v2 (v3 ||| (1 <<< (v4 &&& 31))) v4 _ _ h
      · replace h := sx_t h hc4
        refine sx_goto (tgt := 80) hX d_Mo_needs_54 (by decide) ?_
        exact g_Mo_needs_b80 hX hK hE  ih v1 v2 v3 v4 _ _ h
set_option maxRecDepth 100000 in
set_option maxHeartbeats 4000000 in
theorem c_Mo_needs {l : Launch} {K : sx_K} (hK : kx_F K) (x1 : Int32) (σ : sx_M) (τ : sx_L) (Q : Int32 → sx_M → sx_L → Prop)  (h : wp_Mo_needs x1 σ τ Q) : Met l y_Mo_needs (sx_wd y_Mo_needs prog_13_method_98_code 5 (some .int)) rm_Mo_needs (sx_Pc K [.ref (K.2.2.1 50 0 0), .int x1] σ τ) (sx_Qi K Q) 0 0 (sx_A K) := by
  refine sx_met (by decide) (Nat.le_of_ble_eq_true rfl) (fun X hX hE => ?_)
  replace hX : sx_C X K prog_13_method_98_code 5 "SensorTreeModel" (some .int) rm_Mo_needs l := hX
  show sx_G X K 5 0 [(0, .ref (K.2.2.1 50 0 0)), (1, .int x1)] [] (sx_H K σ τ)
  unfold wp_Mo_needs at h
  refine sx_aload_n (pc2 := 1) hX 0 d_Mo_needs_0 rfl rfl rfl ?_
  refine sx_iload_n (pc2 := 2) hX 1 d_Mo_needs_1 rfl rfl rfl ?_
  refine cl_Mo_341 (pc2 := 5) hX hK h  ⟨Nat.le_of_ble_eq_true rfl, Nat.le_of_ble_eq_true rfl⟩ (Nat.le_of_ble_eq_true rfl) d_Mo_needs_2 rfl (fun r8 σ8 τ8 h => ?_)
  refine sx_if_ne (tgt := 10) (pc2 := 8) hX d_Mo_needs_5 (by decide) rfl (fun hc9 => ?_) (fun hc9 => ?_)
  · replace h := sx_f h hc9
    refine sx_aload_n (pc2 := 11) hX 0 d_Mo_needs_10 rfl rfl rfl ?_
    refine cl_Mo_317 (pc2 := 14) hX hK h  ⟨Nat.le_of_ble_eq_true rfl, Nat.le_of_ble_eq_true rfl⟩ (Nat.le_of_ble_eq_true rfl) d_Mo_needs_11 rfl (fun σ10 τ10 h => ?_)
    refine sx_aload_n (pc2 := 15) hX 0 d_Mo_needs_14 rfl rfl rfl ?_
    refine sx_iconst (v := (-1)) (pc2 := 16) hX d_Mo_needs_15 (by decide) rfl ?_
    refine cl_Mo_344 (pc2 := 19) hX hK h  ⟨Nat.le_of_ble_eq_true rfl, Nat.le_of_ble_eq_true rfl⟩ (Nat.le_of_ble_eq_true rfl) d_Mo_needs_16 rfl (fun σ11 τ11 h => ?_)
    refine sx_aload_n (pc2 := 20) hX 0 d_Mo_needs_19 rfl rfl rfl ?_
    refine fg_Mo_89 (pc2 := 23) hX (kr_50 hK) d_Mo_needs_20 rfl ?_
    refine sx_iload_n (pc2 := 24) hX 1 d_Mo_needs_23 rfl rfl rfl ?_
    obtain ⟨hc12, h⟩ := h
    refine sx_iald (pc2 := 25) hX (kr_74 hK) rfl hc12 d_Mo_needs_24 rfl ?_
    refine sx_istore_n (pc2 := 26) hX _ [(0, .ref (K.2.2.1 50 0 0)), (1, .int x1), (2, .int (σ11 74 0 0 x1.toNatClampNeg))] [1, 2, 0] d_Mo_needs_25 rfl (by decide) rfl rfl rfl ?_
    refine sx_iconst (v := 0) (pc2 := 27) hX d_Mo_needs_26 (by decide) rfl ?_
    refine sx_istore_n (pc2 := 28) hX _ [(0, .ref (K.2.2.1 50 0 0)), (1, .int x1), (2, .int (σ11 74 0 0 x1.toNatClampNeg)), (3, .int 0)] [1, 2, 3, 0] d_Mo_needs_27 rfl (by decide) rfl rfl rfl ?_
    refine sx_iconst (v := 0) (pc2 := 29) hX d_Mo_needs_28 (by decide) rfl ?_
    refine sx_istore (pc2 := 31) hX _ [(0, .ref (K.2.2.1 50 0 0)), (1, .int x1), (2, .int (σ11 74 0 0 x1.toNatClampNeg)), (3, .int 0), (4, .int 0)] [1, 2, 3, 4, 0] d_Mo_needs_29 (by decide) rfl rfl rfl ?_
    obtain ⟨f31, h⟩ := h
    exact g_Mo_needs_b31 hX hK hE   f31 x1 (σ11 74 0 0 x1.toNatClampNeg) 0 0 _ _ h
  · replace h := sx_t h hc9
    refine sx_iconst (v := (-1)) (pc2 := 9) hX d_Mo_needs_8 (by decide) rfl ?_
    exact sx_iret hX hE h d_Mo_needs_9
def y_Mo_spare : MethodName := ⟨"SensorTreeModel", "spare", "(I)I"⟩
theorem hy_Mo_spare : y_Mo_spare.cls ≠ "java/lang/invoke/MethodHandle" ∧ y_Mo_spare.cls ≠ "java/lang/invoke/VarHandle" ∧ (parseMethodDescriptor y_Mo_spare.desc).map (fun d => d.parameters.length) = some 1 := by decide +kernel
theorem d_Mo_spare_0 : decode prog_13_method_99_code 0 = .ok (.aload_n 0, 1) := by decide +kernel
theorem d_Mo_spare_1 : decode prog_13_method_99_code 1 = .ok (.iload_n 1, 1) := by decide +kernel
theorem d_Mo_spare_2 : decode prog_13_method_99_code 2 = .ok (.invokevirtual 341, 3) := by decide +kernel
theorem d_Mo_spare_5 : decode prog_13_method_99_code 5 = .ok (.ifCond .eq 16, 3) := by decide +kernel
theorem d_Mo_spare_8 : decode prog_13_method_99_code 8 = .ok (.iload_n 1, 1) := by decide +kernel
theorem d_Mo_spare_9 : decode prog_13_method_99_code 9 = .ok (.ifCond .eq 12, 3) := by decide +kernel
theorem d_Mo_spare_12 : decode prog_13_method_99_code 12 = .ok (.aload_n 0, 1) := by decide +kernel
theorem d_Mo_spare_13 : decode prog_13_method_99_code 13 = .ok (.iload_n 1, 1) := by decide +kernel
theorem d_Mo_spare_14 : decode prog_13_method_99_code 14 = .ok (.iconst 2, 1) := by decide +kernel
theorem d_Mo_spare_15 : decode prog_13_method_99_code 15 = .ok (.invokevirtual 338, 3) := by decide +kernel
theorem d_Mo_spare_18 : decode prog_13_method_99_code 18 = .ok (.ifCond .ge 5, 3) := by decide +kernel
theorem d_Mo_spare_21 : decode prog_13_method_99_code 21 = .ok (.iconst (-1), 1) := by decide +kernel
theorem d_Mo_spare_22 : decode prog_13_method_99_code 22 = .ok (.ireturn, 1) := by decide +kernel
theorem d_Mo_spare_23 : decode prog_13_method_99_code 23 = .ok (.aload_n 0, 1) := by decide +kernel
theorem d_Mo_spare_24 : decode prog_13_method_99_code 24 = .ok (.invokevirtual 317, 3) := by decide +kernel
theorem d_Mo_spare_27 : decode prog_13_method_99_code 27 = .ok (.aload_n 0, 1) := by decide +kernel
theorem d_Mo_spare_28 : decode prog_13_method_99_code 28 = .ok (.iload_n 1, 1) := by decide +kernel
theorem d_Mo_spare_29 : decode prog_13_method_99_code 29 = .ok (.aload_n 0, 1) := by decide +kernel
theorem d_Mo_spare_30 : decode prog_13_method_99_code 30 = .ok (.getfield 58, 3) := by decide +kernel
theorem d_Mo_spare_33 : decode prog_13_method_99_code 33 = .ok (.bipush 49, 2) := by decide +kernel
theorem d_Mo_spare_35 : decode prog_13_method_99_code 35 = .ok (.aload_n 0, 1) := by decide +kernel
theorem d_Mo_spare_36 : decode prog_13_method_99_code 36 = .ok (.getfield 170, 3) := by decide +kernel
theorem d_Mo_spare_39 : decode prog_13_method_99_code 39 = .ok (.imul, 1) := by decide +kernel
theorem d_Mo_spare_40 : decode prog_13_method_99_code 40 = .ok (.bipush 7, 2) := by decide +kernel
theorem d_Mo_spare_42 : decode prog_13_method_99_code 42 = .ok (.iload_n 1, 1) := by decide +kernel
theorem d_Mo_spare_43 : decode prog_13_method_99_code 43 = .ok (.imul, 1) := by decide +kernel
theorem d_Mo_spare_44 : decode prog_13_method_99_code 44 = .ok (.iadd, 1) := by decide +kernel
theorem d_Mo_spare_45 : decode prog_13_method_99_code 45 = .ok (.aload_n 0, 1) := by decide +kernel
theorem d_Mo_spare_46 : decode prog_13_method_99_code 46 = .ok (.iload_n 1, 1) := by decide +kernel
theorem d_Mo_spare_47 : decode prog_13_method_99_code 47 = .ok (.iconst 2, 1) := by decide +kernel
theorem d_Mo_spare_48 : decode prog_13_method_99_code 48 = .ok (.invokevirtual 338, 3) := by decide +kernel
theorem d_Mo_spare_51 : decode prog_13_method_99_code 51 = .ok (.iadd, 1) := by decide +kernel
theorem d_Mo_spare_52 : decode prog_13_method_99_code 52 = .ok (.iaload, 1) := by decide +kernel
theorem d_Mo_spare_53 : decode prog_13_method_99_code 53 = .ok (.invokevirtual 287, 3) := by decide +kernel
theorem d_Mo_spare_56 : decode prog_13_method_99_code 56 = .ok (.istore_n 2, 1) := by decide +kernel
theorem d_Mo_spare_57 : decode prog_13_method_99_code 57 = .ok (.iload_n 2, 1) := by decide +kernel
theorem d_Mo_spare_58 : decode prog_13_method_99_code 58 = .ok (.ifCond .ge 8, 3) := by decide +kernel
theorem d_Mo_spare_61 : decode prog_13_method_99_code 61 = .ok (.bipush (-2), 2) := by decide +kernel
theorem d_Mo_spare_63 : decode prog_13_method_99_code 63 = .ok (.goto 4, 3) := by decide +kernel
theorem d_Mo_spare_66 : decode prog_13_method_99_code 66 = .ok (.iload_n 2, 1) := by decide +kernel
theorem d_Mo_spare_67 : decode prog_13_method_99_code 67 = .ok (.ireturn, 1) := by decide +kernel
def wp_Mo_spare_b67   (Q : Int32 → sx_M → sx_L → Prop) (w0 : Int32) (σ : sx_M) (τ : sx_L) : Prop := Q w0 σ τ
def wp_Mo_spare_b21   (Q : Int32 → sx_M → sx_L → Prop)  (σ : sx_M) (τ : sx_L) : Prop := Q (-1) σ τ
def wp_Mo_spare (x1 : Int32) (σ : sx_M) (τ : sx_L) (Q : Int32 → sx_M → sx_L → Prop) : Prop := wp_Mo_isNowOn x1 σ τ (fun r1 σ1 τ1 => if r1 = 0 then (wp_Mo_spare_b21 Q σ1 τ1) else (if x1 = 0 then (wp_Mo_spare_b21 Q σ1 τ1) else (wp_Mo_nowOf x1 (2 : Int32) σ1 τ1 (fun r4 σ4 τ4 => if 0 ≤ r4 then (wp_Mo_copies σ4 τ4 (fun σ6 τ6 => wp_Mo_nowOf x1 (2 : Int32) σ6 τ6 (fun r7 σ7 τ7 => vp_in (((49 * (σ6 50 0 0 17)) + (7 * x1)) + r7) 98 ∧ (wp_Mo_bestOf x1 (σ7 64 0 0 (((49 * (σ6 50 0 0 17)) + (7 * x1)) + r7).toNatClampNeg) σ7 τ7 (fun r9 σ9 τ9 => if 0 ≤ r9 then (wp_Mo_spare_b67 Q r9 σ9 τ9) else (wp_Mo_spare_b67 Q (-2) σ9 τ9)))))) else (wp_Mo_spare_b21 Q σ4 τ4)))))
abbrev rm_Mo_spare : Room := { frames := 3, cells := 0, slots := 0, locals := 73 }
set_option maxRecDepth 100000 in
set_option maxHeartbeats 4000000 in
theorem g_Mo_spare_b67 {l : Launch} {K : sx_K} {X : sx_T}   {Q : Int32 → sx_M → sx_L → Prop} (hX : sx_C X K prog_13_method_99_code 3 "SensorTreeModel" (some .int) rm_Mo_spare l) (hK : kx_F K) (hE : sx_E X K (sx_Qi K Q))  (w0 : Int32) (σ : sx_M) (τ : sx_L)  (h : wp_Mo_spare_b67 Q  w0 σ τ) : sx_G X K 3 67 [] [.int w0] (sx_H K σ τ) := by
  unfold wp_Mo_spare_b67 at h
  exact sx_iret hX hE h d_Mo_spare_67
set_option maxRecDepth 100000 in
set_option maxHeartbeats 4000000 in
theorem g_Mo_spare_b21 {l : Launch} {K : sx_K} {X : sx_T}   {Q : Int32 → sx_M → sx_L → Prop} (hX : sx_C X K prog_13_method_99_code 3 "SensorTreeModel" (some .int) rm_Mo_spare l) (hK : kx_F K) (hE : sx_E X K (sx_Qi K Q))   (σ : sx_M) (τ : sx_L)  (h : wp_Mo_spare_b21 Q  σ τ) : sx_G X K 3 21 [] [] (sx_H K σ τ) := by
  unfold wp_Mo_spare_b21 at h
  refine sx_iconst (v := (-1)) (pc2 := 22) hX d_Mo_spare_21 (by decide) rfl ?_
  exact sx_iret hX hE h d_Mo_spare_22
set_option maxRecDepth 100000 in
set_option maxHeartbeats 4000000 in
theorem c_Mo_spare {l : Launch} {K : sx_K} (hK : kx_F K) (x1 : Int32) (σ : sx_M) (τ : sx_L) (Q : Int32 → sx_M → sx_L → Prop)  (h : wp_Mo_spare x1 σ τ Q) : Met l y_Mo_spare (sx_wd y_Mo_spare prog_13_method_99_code 3 (some .int)) rm_Mo_spare (sx_Pc K [.ref (K.2.2.1 50 0 0), .int x1] σ τ) (sx_Qi K Q) 0 0 (sx_A K) := by
  refine sx_met (by decide) (Nat.le_of_ble_eq_true rfl) (fun X hX hE => ?_)
  replace hX : sx_C X K prog_13_method_99_code 3 "SensorTreeModel" (some .int) rm_Mo_spare l := hX
  show sx_G X K 3 0 [(0, .ref (K.2.2.1 50 0 0)), (1, .int x1)] [] (sx_H K σ τ)
  unfold wp_Mo_spare at h
  refine sx_aload_n (pc2 := 1) hX 0 d_Mo_spare_0 rfl rfl rfl ?_
  refine sx_iload_n (pc2 := 2) hX 1 d_Mo_spare_1 rfl rfl rfl ?_
  refine cl_Mo_341 (pc2 := 5) hX hK h  ⟨Nat.le_of_ble_eq_true rfl, Nat.le_of_ble_eq_true rfl⟩ (Nat.le_of_ble_eq_true rfl) d_Mo_spare_2 rfl (fun r1 σ1 τ1 h => ?_)
  refine sx_if_eq (tgt := 21) (pc2 := 8) hX d_Mo_spare_5 (by decide) rfl (fun hc2 => ?_) (fun hc2 => ?_)
  · replace h := sx_t h hc2
    refine sx_sub [] [] rfl ?_
    exact g_Mo_spare_b21 hX hK hE   _ _ h
  · replace h := sx_f h hc2
    refine sx_iload_n (pc2 := 9) hX 1 d_Mo_spare_8 rfl rfl rfl ?_
    refine sx_if_eq (tgt := 21) (pc2 := 12) hX d_Mo_spare_9 (by decide) rfl (fun hc3 => ?_) (fun hc3 => ?_)
    · replace h := sx_t h hc3
      refine sx_sub [] [] rfl ?_
      exact g_Mo_spare_b21 hX hK hE   _ _ h
    · replace h := sx_f h hc3
      refine sx_aload_n (pc2 := 13) hX 0 d_Mo_spare_12 rfl rfl rfl ?_
      refine sx_iload_n (pc2 := 14) hX 1 d_Mo_spare_13 rfl rfl rfl ?_
      refine sx_iconst (v := 2) (pc2 := 15) hX d_Mo_spare_14 (by decide) rfl ?_
      refine cl_Mo_338 (pc2 := 18) hX hK h  ⟨Nat.le_of_ble_eq_true rfl, Nat.le_of_ble_eq_true rfl⟩ (Nat.le_of_ble_eq_true rfl) d_Mo_spare_15 rfl (fun r4 σ4 τ4 h => ?_)
      refine sx_if_ge (tgt := 23) (pc2 := 21) hX d_Mo_spare_18 (by decide) rfl (fun hc5 => ?_) (fun hc5 => ?_)
      · replace h := sx_t h hc5
        refine sx_aload_n (pc2 := 24) hX 0 d_Mo_spare_23 rfl rfl rfl ?_
        refine cl_Mo_317 (pc2 := 27) hX hK h  ⟨Nat.le_of_ble_eq_true rfl, Nat.le_of_ble_eq_true rfl⟩ (Nat.le_of_ble_eq_true rfl) d_Mo_spare_24 rfl (fun σ6 τ6 h => ?_)
        refine sx_aload_n (pc2 := 28) hX 0 d_Mo_spare_27 rfl rfl rfl ?_
        refine sx_iload_n (pc2 := 29) hX 1 d_Mo_spare_28 rfl rfl rfl ?_
        refine sx_aload_n (pc2 := 30) hX 0 d_Mo_spare_29 rfl rfl rfl ?_
        refine fg_Mo_58 (pc2 := 33) hX (kr_50 hK) d_Mo_spare_30 rfl ?_
        refine sx_bipush (v := 49) (pc2 := 35) hX d_Mo_spare_33 (by decide) rfl ?_
        refine sx_aload_n (pc2 := 36) hX 0 d_Mo_spare_35 rfl rfl rfl ?_
        refine fg_Mo_170 (pc2 := 39) hX (kr_50 hK) d_Mo_spare_36 rfl ?_
        refine sx_imul (pc2 := 40) hX d_Mo_spare_39 rfl ?_
        refine sx_bipush (v := 7) (pc2 := 42) hX d_Mo_spare_40 (by decide) rfl ?_
        refine sx_iload_n (pc2 := 43) hX 1 d_Mo_spare_42 rfl rfl rfl ?_
        refine sx_imul (pc2 := 44) hX d_Mo_spare_43 rfl ?_
        refine sx_iadd (pc2 := 45) hX d_Mo_spare_44 rfl ?_
        refine sx_aload_n (pc2 := 46) hX 0 d_Mo_spare_45 rfl rfl rfl ?_
        refine sx_iload_n (pc2 := 47) hX 1 d_Mo_spare_46 rfl rfl rfl ?_
        refine sx_iconst (v := 2) (pc2 := 48) hX d_Mo_spare_47 (by decide) rfl ?_
        refine cl_Mo_338 (pc2 := 51) hX hK h  ⟨Nat.le_of_ble_eq_true rfl, Nat.le_of_ble_eq_true rfl⟩ (Nat.le_of_ble_eq_true rfl) d_Mo_spare_48 rfl (fun r7 σ7 τ7 h => ?_)
        refine sx_iadd (pc2 := 52) hX d_Mo_spare_51 rfl ?_
        obtain ⟨hc8, h⟩ := h
        refine sx_iald (pc2 := 53) hX (kr_64 hK) rfl hc8 d_Mo_spare_52 rfl ?_
        refine cl_Mo_287 (pc2 := 56) hX hK h  ⟨Nat.le_of_ble_eq_true rfl, Nat.le_of_ble_eq_true rfl⟩ (Nat.le_of_ble_eq_true rfl) d_Mo_spare_53 rfl (fun r9 σ9 τ9 h => ?_)
        refine sx_istore_n (pc2 := 57) hX _ [(0, .ref (K.2.2.1 50 0 0)), (1, .int x1), (2, .int r9)] [1, 2, 0] d_Mo_spare_56 rfl (by decide) rfl rfl rfl ?_
        refine sx_iload_n (pc2 := 58) hX 2 d_Mo_spare_57 rfl rfl rfl ?_
        refine sx_if_ge (tgt := 66) (pc2 := 61) hX d_Mo_spare_58 (by decide) rfl (fun hc10 => ?_) (fun hc10 => ?_)
        · replace h := sx_t h hc10
          refine sx_iload_n (pc2 := 67) hX 2 d_Mo_spare_66 rfl rfl rfl ?_
          refine sx_sub [] [] rfl ?_
          exact g_Mo_spare_b67 hX hK hE   r9 _ _ h
        · replace h := sx_f h hc10
          refine sx_bipush (v := (-2)) (pc2 := 63) hX d_Mo_spare_61 (by decide) rfl ?_
          refine sx_goto (tgt := 67) hX d_Mo_spare_63 (by decide) ?_
          refine sx_sub [] [] rfl ?_
          exact g_Mo_spare_b67 hX hK hE   (-2) _ _ h
      · replace h := sx_f h hc5
        refine sx_sub [] [] rfl ?_
        exact g_Mo_spare_b21 hX hK hE   _ _ h
def y_Mo_deep : MethodName := ⟨"SensorTreeModel", "deep", "()I"⟩
theorem hy_Mo_deep : y_Mo_deep.cls ≠ "java/lang/invoke/MethodHandle" ∧ y_Mo_deep.cls ≠ "java/lang/invoke/VarHandle" ∧ (parseMethodDescriptor y_Mo_deep.desc).map (fun d => d.parameters.length) = some 0 := by decide +kernel
theorem d_Mo_deep_0 : decode prog_13_method_100_code 0 = .ok (.aload_n 0, 1) := by decide +kernel
theorem d_Mo_deep_1 : decode prog_13_method_100_code 1 = .ok (.invokevirtual 317, 3) := by decide +kernel
theorem d_Mo_deep_4 : decode prog_13_method_100_code 4 = .ok (.iconst 0, 1) := by decide +kernel
theorem d_Mo_deep_5 : decode prog_13_method_100_code 5 = .ok (.istore_n 1, 1) := by decide +kernel
theorem d_Mo_deep_6 : decode prog_13_method_100_code 6 = .ok (.iconst 0, 1) := by decide +kernel
theorem d_Mo_deep_7 : decode prog_13_method_100_code 7 = .ok (.istore_n 2, 1) := by decide +kernel
theorem d_Mo_deep_8 : decode prog_13_method_100_code 8 = .ok (.iload_n 2, 1) := by decide +kernel
theorem d_Mo_deep_9 : decode prog_13_method_100_code 9 = .ok (.aload_n 0, 1) := by decide +kernel
theorem d_Mo_deep_10 : decode prog_13_method_100_code 10 = .ok (.getfield 40, 3) := by decide +kernel
theorem d_Mo_deep_13 : decode prog_13_method_100_code 13 = .ok (.aload_n 0, 1) := by decide +kernel
theorem d_Mo_deep_14 : decode prog_13_method_100_code 14 = .ok (.getfield 170, 3) := by decide +kernel
theorem d_Mo_deep_17 : decode prog_13_method_100_code 17 = .ok (.iaload, 1) := by decide +kernel
theorem d_Mo_deep_18 : decode prog_13_method_100_code 18 = .ok (.if_icmp .ge 22, 3) := by decide +kernel
theorem d_Mo_deep_21 : decode prog_13_method_100_code 21 = .ok (.aload_n 0, 1) := by decide +kernel
theorem d_Mo_deep_22 : decode prog_13_method_100_code 22 = .ok (.iload_n 2, 1) := by decide +kernel
theorem d_Mo_deep_23 : decode prog_13_method_100_code 23 = .ok (.invokevirtual 347, 3) := by decide +kernel
theorem d_Mo_deep_26 : decode prog_13_method_100_code 26 = .ok (.istore_n 3, 1) := by decide +kernel
theorem d_Mo_deep_27 : decode prog_13_method_100_code 27 = .ok (.iload_n 3, 1) := by decide +kernel
theorem d_Mo_deep_28 : decode prog_13_method_100_code 28 = .ok (.iload_n 1, 1) := by decide +kernel
theorem d_Mo_deep_29 : decode prog_13_method_100_code 29 = .ok (.if_icmp .le 5, 3) := by decide +kernel
theorem d_Mo_deep_32 : decode prog_13_method_100_code 32 = .ok (.iload_n 3, 1) := by decide +kernel
theorem d_Mo_deep_33 : decode prog_13_method_100_code 33 = .ok (.istore_n 1, 1) := by decide +kernel
theorem d_Mo_deep_34 : decode prog_13_method_100_code 34 = .ok (.iinc 2 1, 3) := by decide +kernel
theorem d_Mo_deep_37 : decode prog_13_method_100_code 37 = .ok (.goto (-29), 3) := by decide +kernel
theorem d_Mo_deep_40 : decode prog_13_method_100_code 40 = .ok (.iload_n 1, 1) := by decide +kernel
theorem d_Mo_deep_41 : decode prog_13_method_100_code 41 = .ok (.ireturn, 1) := by decide +kernel
def wp_Mo_deep_b34  (k8 : Int32 → Int32 → sx_M → sx_L → Prop) (Q : Int32 → sx_M → sx_L → Prop) (v1 : Int32) (v2 : Int32) (σ : sx_M) (τ : sx_L) : Prop := k8 v1 (v2 + 1) σ τ
def wp_Mo_deep_b8   (Q : Int32 → sx_M → sx_L → Prop) : Nat → Int32 → Int32 → sx_M → sx_L → Prop
  | 0, _, _, _, _ => False
  | f + 1, v1, v2, σ, τ => vp_in (σ 50 0 0 17) 2 ∧ (if σ 58 0 0 (σ 50 0 0 17).toNatClampNeg ≤ v2 then (Q v1 σ τ) else (wp_Mo_above v2 σ τ (fun r3 σ3 τ3 => if r3 ≤ v1 then (wp_Mo_deep_b34 (wp_Mo_deep_b8 Q f) Q v1 v2 σ3 τ3) else (wp_Mo_deep_b34 (wp_Mo_deep_b8 Q f) Q r3 v2 σ3 τ3))))
def wp_Mo_deep  (σ : sx_M) (τ : sx_L) (Q : Int32 → sx_M → sx_L → Prop) : Prop := wp_Mo_copies σ τ (fun σ5 τ5 => ∃ f8, wp_Mo_deep_b8 Q f8 0 0 σ5 τ5)
abbrev rm_Mo_deep : Room := { frames := 2, cells := 0, slots := 0, locals := 45 }
set_option maxRecDepth 100000 in
set_option maxHeartbeats 4000000 in
theorem g_Mo_deep_b34 {l : Launch} {K : sx_K} {X : sx_T}  {k8 : Int32 → Int32 → sx_M → sx_L → Prop} {Q : Int32 → sx_M → sx_L → Prop} (hX : sx_C X K prog_13_method_100_code 4 "SensorTreeModel" (some .int) rm_Mo_deep l) (hK : kx_F K) (hE : sx_E X K (sx_Qi K Q))  (hk8 : ∀ (v1 : Int32) (v2 : Int32) (σ : sx_M) (τ : sx_L) , k8 v1 v2 σ τ → sx_G X K 4 8 [(0, .ref (K.2.2.1 50 0 0)), (1, .int v1), (2, .int v2)] [] (sx_H K σ τ)) (v1 : Int32) (v2 : Int32) (σ : sx_M) (τ : sx_L)  (h : wp_Mo_deep_b34 k8 Q  v1 v2 σ τ) : sx_G X K 4 34 [(0, .ref (K.2.2.1 50 0 0)), (1, .int v1), (2, .int v2)] [] (sx_H K σ τ) := by
  unfold wp_Mo_deep_b34 at h
  refine sx_iinc (pc2 := 37) hX 2 _ [(0, .ref (K.2.2.1 50 0 0)), (1, .int v1), (2, .int (v2 + 1))] [1, 2, 0] d_Mo_deep_34 rfl (v2 + 1) rfl (by decide) rfl rfl rfl ?_
  refine sx_goto (tgt := 8) hX d_Mo_deep_37 (by decide) ?_
  exact hk8 v1 (v2 + 1) _ _ h
set_option maxRecDepth 100000 in
set_option maxHeartbeats 4000000 in
theorem g_Mo_deep_b8 {l : Launch} {K : sx_K} {X : sx_T}   {Q : Int32 → sx_M → sx_L → Prop} (hX : sx_C X K prog_13_method_100_code 4 "SensorTreeModel" (some .int) rm_Mo_deep l) (hK : kx_F K) (hE : sx_E X K (sx_Qi K Q))  : ∀ (f : Nat) (v1 : Int32) (v2 : Int32) (σ : sx_M) (τ : sx_L) , wp_Mo_deep_b8 Q f v1 v2 σ τ → sx_G X K 4 8 [(0, .ref (K.2.2.1 50 0 0)), (1, .int v1), (2, .int v2)] [] (sx_H K σ τ) := by
  intro f
  induction f with
  | zero => intro v1 v2 σ τ h; exact (show False from h).elim
  | succ f ih =>
    intro v1 v2 σ τ h
    rw [wp_Mo_deep_b8] at h
    refine sx_iload_n (pc2 := 9) hX 2 d_Mo_deep_8 rfl rfl rfl ?_
    refine sx_aload_n (pc2 := 10) hX 0 d_Mo_deep_9 rfl rfl rfl ?_
    refine fg_Mo_40 (pc2 := 13) hX (kr_50 hK) d_Mo_deep_10 rfl ?_
    refine sx_aload_n (pc2 := 14) hX 0 d_Mo_deep_13 rfl rfl rfl ?_
    refine fg_Mo_170 (pc2 := 17) hX (kr_50 hK) d_Mo_deep_14 rfl ?_
    obtain ⟨hc1, h⟩ := h
    refine sx_iald (pc2 := 18) hX (kr_58 hK) rfl hc1 d_Mo_deep_17 rfl ?_
    refine sx_icmp_ge (tgt := 40) (pc2 := 21) hX d_Mo_deep_18 (by decide) rfl (fun hc2 => ?_) (fun hc2 => ?_)
    · replace h := sx_t h hc2
      refine sx_iload_n (pc2 := 41) hX 1 d_Mo_deep_40 rfl rfl rfl ?_
      exact sx_iret hX hE h d_Mo_deep_41
    · replace h := sx_f h hc2
      refine sx_aload_n (pc2 := 22) hX 0 d_Mo_deep_21 rfl rfl rfl ?_
      refine sx_iload_n (pc2 := 23) hX 2 d_Mo_deep_22 rfl rfl rfl ?_
      refine cl_Mo_347 (pc2 := 26) hX hK h  ⟨Nat.le_of_ble_eq_true rfl, Nat.le_of_ble_eq_true rfl⟩ (Nat.le_of_ble_eq_true rfl) d_Mo_deep_23 rfl (fun r3 σ3 τ3 h => ?_)
      refine sx_istore_n (pc2 := 27) hX _ [(0, .ref (K.2.2.1 50 0 0)), (1, .int v1), (2, .int v2), (3, .int r3)] [1, 2, 3, 0] d_Mo_deep_26 rfl (by decide) rfl rfl rfl ?_
      refine sx_iload_n (pc2 := 28) hX 3 d_Mo_deep_27 rfl rfl rfl ?_
      refine sx_iload_n (pc2 := 29) hX 1 d_Mo_deep_28 rfl rfl rfl ?_
      refine sx_icmp_le (tgt := 34) (pc2 := 32) hX d_Mo_deep_29 (by decide) rfl (fun hc4 => ?_) (fun hc4 => ?_)
      · replace h := sx_t h hc4
        refine sx_sub [(0, .ref (K.2.2.1 50 0 0)), (1, .int v1), (2, .int v2)] [0, 1, 2] rfl ?_
        exact g_Mo_deep_b34 hX hK hE  ih v1 v2 _ _ h
      · replace h := sx_f h hc4
        refine sx_iload_n (pc2 := 33) hX 3 d_Mo_deep_32 rfl rfl rfl ?_
        refine sx_istore_n (pc2 := 34) hX _ [(0, .ref (K.2.2.1 50 0 0)), (1, .int r3), (2, .int v2), (3, .int r3)] [1, 0, 2, 3] d_Mo_deep_33 rfl (by decide) rfl rfl rfl ?_
        refine sx_sub [(0, .ref (K.2.2.1 50 0 0)), (1, .int r3), (2, .int v2)] [0, 1, 2] rfl ?_
        exact g_Mo_deep_b34 hX hK hE  ih r3 v2 _ _ h
set_option maxRecDepth 100000 in
set_option maxHeartbeats 4000000 in
theorem c_Mo_deep {l : Launch} {K : sx_K} (hK : kx_F K)  (σ : sx_M) (τ : sx_L) (Q : Int32 → sx_M → sx_L → Prop)  (h : wp_Mo_deep σ τ Q) : Met l y_Mo_deep (sx_wd y_Mo_deep prog_13_method_100_code 4 (some .int)) rm_Mo_deep (sx_Pc K [.ref (K.2.2.1 50 0 0)] σ τ) (sx_Qi K Q) 0 0 (sx_A K) := by
  refine sx_met (by decide) (Nat.le_of_ble_eq_true rfl) (fun X hX hE => ?_)
  replace hX : sx_C X K prog_13_method_100_code 4 "SensorTreeModel" (some .int) rm_Mo_deep l := hX
  show sx_G X K 4 0 [(0, .ref (K.2.2.1 50 0 0))] [] (sx_H K σ τ)
  unfold wp_Mo_deep at h
  refine sx_aload_n (pc2 := 1) hX 0 d_Mo_deep_0 rfl rfl rfl ?_
  refine cl_Mo_317 (pc2 := 4) hX hK h  ⟨Nat.le_of_ble_eq_true rfl, Nat.le_of_ble_eq_true rfl⟩ (Nat.le_of_ble_eq_true rfl) d_Mo_deep_1 rfl (fun σ5 τ5 h => ?_)
  refine sx_iconst (v := 0) (pc2 := 5) hX d_Mo_deep_4 (by decide) rfl ?_
  refine sx_istore_n (pc2 := 6) hX _ [(0, .ref (K.2.2.1 50 0 0)), (1, .int 0)] [1, 0] d_Mo_deep_5 rfl (by decide) rfl rfl rfl ?_
  refine sx_iconst (v := 0) (pc2 := 7) hX d_Mo_deep_6 (by decide) rfl ?_
  refine sx_istore_n (pc2 := 8) hX _ [(0, .ref (K.2.2.1 50 0 0)), (1, .int 0), (2, .int 0)] [1, 2, 0] d_Mo_deep_7 rfl (by decide) rfl rfl rfl ?_
  obtain ⟨f8, h⟩ := h
  exact g_Mo_deep_b8 hX hK hE   f8 0 0 _ _ h
def y_Mo_reached : MethodName := ⟨"SensorTreeModel", "reached", "()I"⟩
theorem hy_Mo_reached : y_Mo_reached.cls ≠ "java/lang/invoke/MethodHandle" ∧ y_Mo_reached.cls ≠ "java/lang/invoke/VarHandle" ∧ (parseMethodDescriptor y_Mo_reached.desc).map (fun d => d.parameters.length) = some 0 := by decide +kernel
theorem d_Mo_reached_0 : decode prog_13_method_101_code 0 = .ok (.iconst 0, 1) := by decide +kernel
theorem d_Mo_reached_1 : decode prog_13_method_101_code 1 = .ok (.istore_n 1, 1) := by decide +kernel
theorem d_Mo_reached_2 : decode prog_13_method_101_code 2 = .ok (.iconst 0, 1) := by decide +kernel
theorem d_Mo_reached_3 : decode prog_13_method_101_code 3 = .ok (.istore_n 2, 1) := by decide +kernel
theorem d_Mo_reached_4 : decode prog_13_method_101_code 4 = .ok (.iload_n 2, 1) := by decide +kernel
theorem d_Mo_reached_5 : decode prog_13_method_101_code 5 = .ok (.aload_n 0, 1) := by decide +kernel
theorem d_Mo_reached_6 : decode prog_13_method_101_code 6 = .ok (.getfield 40, 3) := by decide +kernel
theorem d_Mo_reached_9 : decode prog_13_method_101_code 9 = .ok (.aload_n 0, 1) := by decide +kernel
theorem d_Mo_reached_10 : decode prog_13_method_101_code 10 = .ok (.getfield 170, 3) := by decide +kernel
theorem d_Mo_reached_13 : decode prog_13_method_101_code 13 = .ok (.iaload, 1) := by decide +kernel
theorem d_Mo_reached_14 : decode prog_13_method_101_code 14 = .ok (.if_icmp .ge 58, 3) := by decide +kernel
theorem d_Mo_reached_17 : decode prog_13_method_101_code 17 = .ok (.iconst 0, 1) := by decide +kernel
theorem d_Mo_reached_18 : decode prog_13_method_101_code 18 = .ok (.istore_n 3, 1) := by decide +kernel
theorem d_Mo_reached_19 : decode prog_13_method_101_code 19 = .ok (.iload_n 3, 1) := by decide +kernel
theorem d_Mo_reached_20 : decode prog_13_method_101_code 20 = .ok (.aload_n 0, 1) := by decide +kernel
theorem d_Mo_reached_21 : decode prog_13_method_101_code 21 = .ok (.getfield 40, 3) := by decide +kernel
theorem d_Mo_reached_24 : decode prog_13_method_101_code 24 = .ok (.aload_n 0, 1) := by decide +kernel
theorem d_Mo_reached_25 : decode prog_13_method_101_code 25 = .ok (.getfield 170, 3) := by decide +kernel
theorem d_Mo_reached_28 : decode prog_13_method_101_code 28 = .ok (.iaload, 1) := by decide +kernel
theorem d_Mo_reached_29 : decode prog_13_method_101_code 29 = .ok (.if_icmp .ge 37, 3) := by decide +kernel
theorem d_Mo_reached_32 : decode prog_13_method_101_code 32 = .ok (.aload_n 0, 1) := by decide +kernel
theorem d_Mo_reached_33 : decode prog_13_method_101_code 33 = .ok (.iload_n 2, 1) := by decide +kernel
theorem d_Mo_reached_34 : decode prog_13_method_101_code 34 = .ok (.iload_n 3, 1) := by decide +kernel
theorem d_Mo_reached_35 : decode prog_13_method_101_code 35 = .ok (.invokevirtual 332, 3) := by decide +kernel
theorem d_Mo_reached_38 : decode prog_13_method_101_code 38 = .ok (.ifCond .ne 6, 3) := by decide +kernel
theorem d_Mo_reached_41 : decode prog_13_method_101_code 41 = .ok (.goto 19, 3) := by decide +kernel
theorem d_Mo_reached_44 : decode prog_13_method_101_code 44 = .ok (.aload_n 0, 1) := by decide +kernel
theorem d_Mo_reached_45 : decode prog_13_method_101_code 45 = .ok (.invokevirtual 317, 3) := by decide +kernel
theorem d_Mo_reached_48 : decode prog_13_method_101_code 48 = .ok (.aload_n 0, 1) := by decide +kernel
theorem d_Mo_reached_49 : decode prog_13_method_101_code 49 = .ok (.iload_n 2, 1) := by decide +kernel
theorem d_Mo_reached_50 : decode prog_13_method_101_code 50 = .ok (.iload_n 3, 1) := by decide +kernel
theorem d_Mo_reached_51 : decode prog_13_method_101_code 51 = .ok (.invokevirtual 335, 3) := by decide +kernel
theorem d_Mo_reached_54 : decode prog_13_method_101_code 54 = .ok (.ifCond .ne 6, 3) := by decide +kernel
theorem d_Mo_reached_57 : decode prog_13_method_101_code 57 = .ok (.iinc 1 1, 3) := by decide +kernel
theorem d_Mo_reached_60 : decode prog_13_method_101_code 60 = .ok (.iinc 3 1, 3) := by decide +kernel
theorem d_Mo_reached_63 : decode prog_13_method_101_code 63 = .ok (.goto (-44), 3) := by decide +kernel
theorem d_Mo_reached_66 : decode prog_13_method_101_code 66 = .ok (.iinc 2 1, 3) := by decide +kernel
theorem d_Mo_reached_69 : decode prog_13_method_101_code 69 = .ok (.goto (-65), 3) := by decide +kernel
theorem d_Mo_reached_72 : decode prog_13_method_101_code 72 = .ok (.iload_n 1, 1) := by decide +kernel
theorem d_Mo_reached_73 : decode prog_13_method_101_code 73 = .ok (.ireturn, 1) := by decide +kernel
def wp_Mo_reached_b60  (k4 : Int32 → Int32 → sx_M → sx_L → Prop) (k19 : Int32 → Int32 → Int32 → sx_M → sx_L → Prop) (Q : Int32 → sx_M → sx_L → Prop) (v1 : Int32) (v2 : Int32) (v3 : Int32) (σ : sx_M) (τ : sx_L) : Prop := k19 v1 v2 (v3 + 1) σ τ
def wp_Mo_reached_b19  (k4 : Int32 → Int32 → sx_M → sx_L → Prop) (Q : Int32 → sx_M → sx_L → Prop) : Nat → Int32 → Int32 → Int32 → sx_M → sx_L → Prop
  | 0, _, _, _, _, _ => False
  | f + 1, v1, v2, v3, σ, τ => vp_in (σ 50 0 0 17) 2 ∧ (if σ 58 0 0 (σ 50 0 0 17).toNatClampNeg ≤ v3 then (k4 v1 (v2 + 1) σ τ) else (wp_Mo_canSend v2 v3 σ τ (fun r3 σ3 τ3 => if r3 = 0 then (wp_Mo_reached_b60 k4 (wp_Mo_reached_b19 k4 Q f) Q v1 v2 v3 σ3 τ3) else (wp_Mo_copies σ3 τ3 (fun σ5 τ5 => wp_Mo_sends v2 v3 σ5 τ5 (fun r6 σ6 τ6 => if r6 = 0 then (wp_Mo_reached_b60 k4 (wp_Mo_reached_b19 k4 Q f) Q (v1 + 1) v2 v3 σ6 τ6) else (wp_Mo_reached_b60 k4 (wp_Mo_reached_b19 k4 Q f) Q v1 v2 v3 σ6 τ6)))))))
def wp_Mo_reached_b4   (Q : Int32 → sx_M → sx_L → Prop) : Nat → Int32 → Int32 → sx_M → sx_L → Prop
  | 0, _, _, _, _ => False
  | f + 1, v1, v2, σ, τ => vp_in (σ 50 0 0 17) 2 ∧ (if σ 58 0 0 (σ 50 0 0 17).toNatClampNeg ≤ v2 then (Q v1 σ τ) else (∃ f19, wp_Mo_reached_b19 (wp_Mo_reached_b4 Q f) Q f19 v1 v2 0 σ τ))
def wp_Mo_reached  (σ : sx_M) (τ : sx_L) (Q : Int32 → sx_M → sx_L → Prop) : Prop := ∃ f4, wp_Mo_reached_b4 Q f4 0 0 σ τ
abbrev rm_Mo_reached : Room := { frames := 5, cells := 0, slots := 0, locals := 114 }
set_option maxRecDepth 100000 in
set_option maxHeartbeats 4000000 in
theorem g_Mo_reached_b60 {l : Launch} {K : sx_K} {X : sx_T}  {k4 : Int32 → Int32 → sx_M → sx_L → Prop} {k19 : Int32 → Int32 → Int32 → sx_M → sx_L → Prop} {Q : Int32 → sx_M → sx_L → Prop} (hX : sx_C X K prog_13_method_101_code 4 "SensorTreeModel" (some .int) rm_Mo_reached l) (hK : kx_F K) (hE : sx_E X K (sx_Qi K Q))  (hk4 : ∀ (v1 : Int32) (v2 : Int32) (σ : sx_M) (τ : sx_L) , k4 v1 v2 σ τ → sx_G X K 4 4 [(0, .ref (K.2.2.1 50 0 0)), (1, .int v1), (2, .int v2)] [] (sx_H K σ τ)) (hk19 : ∀ (v1 : Int32) (v2 : Int32) (v3 : Int32) (σ : sx_M) (τ : sx_L) , k19 v1 v2 v3 σ τ → sx_G X K 4 19 [(0, .ref (K.2.2.1 50 0 0)), (1, .int v1), (2, .int v2), (3, .int v3)] [] (sx_H K σ τ)) (v1 : Int32) (v2 : Int32) (v3 : Int32) (σ : sx_M) (τ : sx_L)  (h : wp_Mo_reached_b60 k4 k19 Q  v1 v2 v3 σ τ) : sx_G X K 4 60 [(0, .ref (K.2.2.1 50 0 0)), (1, .int v1), (2, .int v2), (3, .int v3)] [] (sx_H K σ τ) := by
  unfold wp_Mo_reached_b60 at h
  refine sx_iinc (pc2 := 63) hX 3 _ [(0, .ref (K.2.2.1 50 0 0)), (1, .int v1), (2, .int v2), (3, .int (v3 + 1))] [1, 2, 3, 0] d_Mo_reached_60 rfl (v3 + 1) rfl (by decide) rfl rfl rfl ?_
  refine sx_goto (tgt := 19) hX d_Mo_reached_63 (by decide) ?_
  exact hk19 v1 v2 (v3 + 1) _ _ h
set_option maxRecDepth 100000 in
set_option maxHeartbeats 4000000 in
theorem g_Mo_reached_b19 {l : Launch} {K : sx_K} {X : sx_T}  {k4 : Int32 → Int32 → sx_M → sx_L → Prop} {Q : Int32 → sx_M → sx_L → Prop} (hX : sx_C X K prog_13_method_101_code 4 "SensorTreeModel" (some .int) rm_Mo_reached l) (hK : kx_F K) (hE : sx_E X K (sx_Qi K Q))  (hk4 : ∀ (v1 : Int32) (v2 : Int32) (σ : sx_M) (τ : sx_L) , k4 v1 v2 σ τ → sx_G X K 4 4 [(0, .ref (K.2.2.1 50 0 0)), (1, .int v1), (2, .int v2)] [] (sx_H K σ τ)) : ∀ (f : Nat) (v1 : Int32) (v2 : Int32) (v3 : Int32) (σ : sx_M) (τ : sx_L) , wp_Mo_reached_b19 k4 Q f v1 v2 v3 σ τ → sx_G X K 4 19 [(0, .ref (K.2.2.1 50 0 0)), (1, .int v1), (2, .int v2), (3, .int v3)] [] (sx_H K σ τ) := by
  intro f
  induction f with
  | zero => intro v1 v2 v3 σ τ h; exact (show False from h).elim
  | succ f ih =>
    intro v1 v2 v3 σ τ h
    rw [wp_Mo_reached_b19] at h
    refine sx_iload_n (pc2 := 20) hX 3 d_Mo_reached_19 rfl rfl rfl ?_
    refine sx_aload_n (pc2 := 21) hX 0 d_Mo_reached_20 rfl rfl rfl ?_
    refine fg_Mo_40 (pc2 := 24) hX (kr_50 hK) d_Mo_reached_21 rfl ?_
    refine sx_aload_n (pc2 := 25) hX 0 d_Mo_reached_24 rfl rfl rfl ?_
    refine fg_Mo_170 (pc2 := 28) hX (kr_50 hK) d_Mo_reached_25 rfl ?_
    obtain ⟨hc1, h⟩ := h
    refine sx_iald (pc2 := 29) hX (kr_58 hK) rfl hc1 d_Mo_reached_28 rfl ?_
    refine sx_icmp_ge (tgt := 66) (pc2 := 32) hX d_Mo_reached_29 (by decide) rfl (fun hc2 => ?_) (fun hc2 => ?_)
    · replace h := sx_t h hc2
      refine sx_iinc (pc2 := 69) hX 2 _ [(0, .ref (K.2.2.1 50 0 0)), (1, .int v1), (2, .int (v2 + 1)), (3, .int v3)] [1, 2, 0, 3] d_Mo_reached_66 rfl (v2 + 1) rfl (by decide) rfl rfl rfl ?_
      refine sx_goto (tgt := 4) hX d_Mo_reached_69 (by decide) ?_
      refine sx_sub [(0, .ref (K.2.2.1 50 0 0)), (1, .int v1), (2, .int (v2 + 1))] [0, 1, 2] rfl ?_
      exact hk4 v1 (v2 + 1) _ _ h
    · replace h := sx_f h hc2
      refine sx_aload_n (pc2 := 33) hX 0 d_Mo_reached_32 rfl rfl rfl ?_
      refine sx_iload_n (pc2 := 34) hX 2 d_Mo_reached_33 rfl rfl rfl ?_
      refine sx_iload_n (pc2 := 35) hX 3 d_Mo_reached_34 rfl rfl rfl ?_
      refine cl_Mo_332 (pc2 := 38) hX hK h  ⟨Nat.le_of_ble_eq_true rfl, Nat.le_of_ble_eq_true rfl⟩ (Nat.le_of_ble_eq_true rfl) d_Mo_reached_35 rfl (fun r3 σ3 τ3 h => ?_)
      refine sx_if_ne (tgt := 44) (pc2 := 41) hX d_Mo_reached_38 (by decide) rfl (fun hc4 => ?_) (fun hc4 => ?_)
      · replace h := sx_f h hc4
        refine sx_aload_n (pc2 := 45) hX 0 d_Mo_reached_44 rfl rfl rfl ?_
        refine cl_Mo_317 (pc2 := 48) hX hK h  ⟨Nat.le_of_ble_eq_true rfl, Nat.le_of_ble_eq_true rfl⟩ (Nat.le_of_ble_eq_true rfl) d_Mo_reached_45 rfl (fun σ5 τ5 h => ?_)
        refine sx_aload_n (pc2 := 49) hX 0 d_Mo_reached_48 rfl rfl rfl ?_
        refine sx_iload_n (pc2 := 50) hX 2 d_Mo_reached_49 rfl rfl rfl ?_
        refine sx_iload_n (pc2 := 51) hX 3 d_Mo_reached_50 rfl rfl rfl ?_
        refine cl_Mo_335 (pc2 := 54) hX hK h  ⟨Nat.le_of_ble_eq_true rfl, Nat.le_of_ble_eq_true rfl⟩ (Nat.le_of_ble_eq_true rfl) d_Mo_reached_51 rfl (fun r6 σ6 τ6 h => ?_)
        refine sx_if_ne (tgt := 60) (pc2 := 57) hX d_Mo_reached_54 (by decide) rfl (fun hc7 => ?_) (fun hc7 => ?_)
        · replace h := sx_f h hc7
          exact g_Mo_reached_b60 hX hK hE  hk4 ih v1 v2 v3 _ _ h
        · replace h := sx_t h hc7
          refine sx_iinc (pc2 := 60) hX 1 _ [(0, .ref (K.2.2.1 50 0 0)), (1, .int (v1 + 1)), (2, .int v2), (3, .int v3)] [1, 0, 2, 3] d_Mo_reached_57 rfl (v1 + 1) rfl (by decide) rfl rfl rfl ?_
          exact g_Mo_reached_b60 hX hK hE  hk4 ih (v1 + 1) v2 v3 _ _ h
      · replace h := sx_t h hc4
        refine sx_goto (tgt := 60) hX d_Mo_reached_41 (by decide) ?_
        exact g_Mo_reached_b60 hX hK hE  hk4 ih v1 v2 v3 _ _ h
set_option maxRecDepth 100000 in
set_option maxHeartbeats 4000000 in
theorem g_Mo_reached_b4 {l : Launch} {K : sx_K} {X : sx_T}   {Q : Int32 → sx_M → sx_L → Prop} (hX : sx_C X K prog_13_method_101_code 4 "SensorTreeModel" (some .int) rm_Mo_reached l) (hK : kx_F K) (hE : sx_E X K (sx_Qi K Q))  : ∀ (f : Nat) (v1 : Int32) (v2 : Int32) (σ : sx_M) (τ : sx_L) , wp_Mo_reached_b4 Q f v1 v2 σ τ → sx_G X K 4 4 [(0, .ref (K.2.2.1 50 0 0)), (1, .int v1), (2, .int v2)] [] (sx_H K σ τ) := by
  intro f
  induction f with
  | zero => intro v1 v2 σ τ h; exact (show False from h).elim
  | succ f ih =>
    intro v1 v2 σ τ h
    rw [wp_Mo_reached_b4] at h
    refine sx_iload_n (pc2 := 5) hX 2 d_Mo_reached_4 rfl rfl rfl ?_
    refine sx_aload_n (pc2 := 6) hX 0 d_Mo_reached_5 rfl rfl rfl ?_
    refine fg_Mo_40 (pc2 := 9) hX (kr_50 hK) d_Mo_reached_6 rfl ?_
    refine sx_aload_n (pc2 := 10) hX 0 d_Mo_reached_9 rfl rfl rfl ?_
    refine fg_Mo_170 (pc2 := 13) hX (kr_50 hK) d_Mo_reached_10 rfl ?_
    obtain ⟨hc8, h⟩ := h
    refine sx_iald (pc2 := 14) hX (kr_58 hK) rfl hc8 d_Mo_reached_13 rfl ?_
    refine sx_icmp_ge (tgt := 72) (pc2 := 17) hX d_Mo_reached_14 (by decide) rfl (fun hc9 => ?_) (fun hc9 => ?_)
    · replace h := sx_t h hc9
      refine sx_iload_n (pc2 := 73) hX 1 d_Mo_reached_72 rfl rfl rfl ?_
      exact sx_iret hX hE h d_Mo_reached_73
    · replace h := sx_f h hc9
      refine sx_iconst (v := 0) (pc2 := 18) hX d_Mo_reached_17 (by decide) rfl ?_
      refine sx_istore_n (pc2 := 19) hX _ [(0, .ref (K.2.2.1 50 0 0)), (1, .int v1), (2, .int v2), (3, .int 0)] [1, 2, 3, 0] d_Mo_reached_18 rfl (by decide) rfl rfl rfl ?_
      obtain ⟨f19, h⟩ := h
      exact g_Mo_reached_b19 hX hK hE  ih f19 v1 v2 0 _ _ h
set_option maxRecDepth 100000 in
set_option maxHeartbeats 4000000 in
theorem c_Mo_reached {l : Launch} {K : sx_K} (hK : kx_F K)  (σ : sx_M) (τ : sx_L) (Q : Int32 → sx_M → sx_L → Prop)  (h : wp_Mo_reached σ τ Q) : Met l y_Mo_reached (sx_wd y_Mo_reached prog_13_method_101_code 4 (some .int)) rm_Mo_reached (sx_Pc K [.ref (K.2.2.1 50 0 0)] σ τ) (sx_Qi K Q) 0 0 (sx_A K) := by
  refine sx_met (by decide) (Nat.le_of_ble_eq_true rfl) (fun X hX hE => ?_)
  replace hX : sx_C X K prog_13_method_101_code 4 "SensorTreeModel" (some .int) rm_Mo_reached l := hX
  show sx_G X K 4 0 [(0, .ref (K.2.2.1 50 0 0))] [] (sx_H K σ τ)
  unfold wp_Mo_reached at h
  refine sx_iconst (v := 0) (pc2 := 1) hX d_Mo_reached_0 (by decide) rfl ?_
  refine sx_istore_n (pc2 := 2) hX _ [(0, .ref (K.2.2.1 50 0 0)), (1, .int 0)] [1, 0] d_Mo_reached_1 rfl (by decide) rfl rfl rfl ?_
  refine sx_iconst (v := 0) (pc2 := 3) hX d_Mo_reached_2 (by decide) rfl ?_
  refine sx_istore_n (pc2 := 4) hX _ [(0, .ref (K.2.2.1 50 0 0)), (1, .int 0), (2, .int 0)] [1, 2, 0] d_Mo_reached_3 rfl (by decide) rfl rfl rfl ?_
  obtain ⟨f4, h⟩ := h
  exact g_Mo_reached_b4 hX hK hE   f4 0 0 _ _ h
def y_Mo_lull : MethodName := ⟨"SensorTreeModel", "lull", "(I)I"⟩
theorem hy_Mo_lull : y_Mo_lull.cls ≠ "java/lang/invoke/MethodHandle" ∧ y_Mo_lull.cls ≠ "java/lang/invoke/VarHandle" ∧ (parseMethodDescriptor y_Mo_lull.desc).map (fun d => d.parameters.length) = some 1 := by decide +kernel
theorem d_Mo_lull_0 : decode prog_13_method_102_code 0 = .ok (.iload_n 1, 1) := by decide +kernel
theorem d_Mo_lull_1 : decode prog_13_method_102_code 1 = .ok (.iconst 1, 1) := by decide +kernel
theorem d_Mo_lull_2 : decode prog_13_method_102_code 2 = .ok (.sipush 200, 3) := by decide +kernel
theorem d_Mo_lull_5 : decode prog_13_method_102_code 5 = .ok (.invokestatic 216, 3) := by decide +kernel
theorem d_Mo_lull_8 : decode prog_13_method_102_code 8 = .ok (.ifCond .ne 5, 3) := by decide +kernel
theorem d_Mo_lull_11 : decode prog_13_method_102_code 11 = .ok (.iconst (-1), 1) := by decide +kernel
theorem d_Mo_lull_12 : decode prog_13_method_102_code 12 = .ok (.ireturn, 1) := by decide +kernel
theorem d_Mo_lull_13 : decode prog_13_method_102_code 13 = .ok (.aload_n 0, 1) := by decide +kernel
theorem d_Mo_lull_14 : decode prog_13_method_102_code 14 = .ok (.invokevirtual 317, 3) := by decide +kernel
theorem d_Mo_lull_17 : decode prog_13_method_102_code 17 = .ok (.iconst 0, 1) := by decide +kernel
theorem d_Mo_lull_18 : decode prog_13_method_102_code 18 = .ok (.istore_n 2, 1) := by decide +kernel
theorem d_Mo_lull_19 : decode prog_13_method_102_code 19 = .ok (.iconst 0, 1) := by decide +kernel
theorem d_Mo_lull_20 : decode prog_13_method_102_code 20 = .ok (.istore_n 3, 1) := by decide +kernel
theorem d_Mo_lull_21 : decode prog_13_method_102_code 21 = .ok (.iconst 0, 1) := by decide +kernel
theorem d_Mo_lull_22 : decode prog_13_method_102_code 22 = .ok (.istore 4, 2) := by decide +kernel
theorem d_Mo_lull_24 : decode prog_13_method_102_code 24 = .ok (.iload 4, 2) := by decide +kernel
theorem d_Mo_lull_26 : decode prog_13_method_102_code 26 = .ok (.iload_n 1, 1) := by decide +kernel
theorem d_Mo_lull_27 : decode prog_13_method_102_code 27 = .ok (.if_icmp .ge 43, 3) := by decide +kernel
theorem d_Mo_lull_30 : decode prog_13_method_102_code 30 = .ok (.aload_n 0, 1) := by decide +kernel
theorem d_Mo_lull_31 : decode prog_13_method_102_code 31 = .ok (.invokevirtual 357, 3) := by decide +kernel
theorem d_Mo_lull_34 : decode prog_13_method_102_code 34 = .ok (.istore 5, 2) := by decide +kernel
theorem d_Mo_lull_36 : decode prog_13_method_102_code 36 = .ok (.aload_n 0, 1) := by decide +kernel
theorem d_Mo_lull_37 : decode prog_13_method_102_code 37 = .ok (.invokevirtual 302, 3) := by decide +kernel
theorem d_Mo_lull_40 : decode prog_13_method_102_code 40 = .ok (.aload_n 0, 1) := by decide +kernel
theorem d_Mo_lull_41 : decode prog_13_method_102_code 41 = .ok (.invokevirtual 357, 3) := by decide +kernel
theorem d_Mo_lull_44 : decode prog_13_method_102_code 44 = .ok (.iload 5, 2) := by decide +kernel
theorem d_Mo_lull_46 : decode prog_13_method_102_code 46 = .ok (.if_icmp .ne 9, 3) := by decide +kernel
theorem d_Mo_lull_49 : decode prog_13_method_102_code 49 = .ok (.iload_n 3, 1) := by decide +kernel
theorem d_Mo_lull_50 : decode prog_13_method_102_code 50 = .ok (.iconst 1, 1) := by decide +kernel
theorem d_Mo_lull_51 : decode prog_13_method_102_code 51 = .ok (.iadd, 1) := by decide +kernel
theorem d_Mo_lull_52 : decode prog_13_method_102_code 52 = .ok (.goto 4, 3) := by decide +kernel
theorem d_Mo_lull_55 : decode prog_13_method_102_code 55 = .ok (.iconst 0, 1) := by decide +kernel
theorem d_Mo_lull_56 : decode prog_13_method_102_code 56 = .ok (.istore_n 3, 1) := by decide +kernel
theorem d_Mo_lull_57 : decode prog_13_method_102_code 57 = .ok (.iload_n 3, 1) := by decide +kernel
theorem d_Mo_lull_58 : decode prog_13_method_102_code 58 = .ok (.iload_n 2, 1) := by decide +kernel
theorem d_Mo_lull_59 : decode prog_13_method_102_code 59 = .ok (.if_icmp .le 5, 3) := by decide +kernel
theorem d_Mo_lull_62 : decode prog_13_method_102_code 62 = .ok (.iload_n 3, 1) := by decide +kernel
theorem d_Mo_lull_63 : decode prog_13_method_102_code 63 = .ok (.istore_n 2, 1) := by decide +kernel
theorem d_Mo_lull_64 : decode prog_13_method_102_code 64 = .ok (.iinc 4 1, 3) := by decide +kernel
theorem d_Mo_lull_67 : decode prog_13_method_102_code 67 = .ok (.goto (-43), 3) := by decide +kernel
theorem d_Mo_lull_70 : decode prog_13_method_102_code 70 = .ok (.iload_n 2, 1) := by decide +kernel
theorem d_Mo_lull_71 : decode prog_13_method_102_code 71 = .ok (.ireturn, 1) := by decide +kernel
def wp_Mo_lull_b64  (k24 : Int32 → Int32 → Int32 → Int32 → sx_M → sx_L → Prop) (Q : Int32 → sx_M → sx_L → Prop) (v1 : Int32) (v2 : Int32) (v3 : Int32) (v4 : Int32) (σ : sx_M) (τ : sx_L) : Prop := k24 v1 v2 v3 (v4 + 1) σ τ
def wp_Mo_lull_b56  (k24 : Int32 → Int32 → Int32 → Int32 → sx_M → sx_L → Prop) (Q : Int32 → sx_M → sx_L → Prop) (v1 : Int32) (v2 : Int32) (v4 : Int32) (w0 : Int32) (σ : sx_M) (τ : sx_L) : Prop := if w0 ≤ v2 then (wp_Mo_lull_b64 k24 Q v1 v2 w0 v4 σ τ) else (wp_Mo_lull_b64 k24 Q v1 w0 w0 v4 σ τ)
def wp_Mo_lull_b24   (Q : Int32 → sx_M → sx_L → Prop) : Nat → Int32 → Int32 → Int32 → Int32 → sx_M → sx_L → Prop
  | 0, _, _, _, _, _, _ => False
  | f + 1, v1, v2, v3, v4, σ, τ => if v1 ≤ v4 then (Q v2 σ τ) else (wp_Mo_said σ τ (fun r3 σ3 τ3 => wp_Mo_tickGoes σ3 τ3 (fun σ4 τ4 => wp_Mo_said σ4 τ4 (fun r5 σ5 τ5 => if r5 = r3 then (wp_Mo_lull_b56 (wp_Mo_lull_b24 Q f) Q v1 v2 v4 (v3 + 1) σ5 τ5) else (wp_Mo_lull_b56 (wp_Mo_lull_b24 Q f) Q v1 v2 v4 0 σ5 τ5)))))
def wp_Mo_lull (x1 : Int32) (σ : sx_M) (τ : sx_L) (Q : Int32 → sx_M → sx_L → Prop) : Prop := wp_Mo_in x1 (1 : Int32) (200 : Int32) σ τ (fun r7 σ7 τ7 => if r7 = 0 then (Q (-1) σ7 τ7) else (wp_Mo_copies σ7 τ7 (fun σ9 τ9 => ∃ f24, wp_Mo_lull_b24 Q f24 x1 0 0 0 σ9 τ9)))
abbrev rm_Mo_lull : Room := { frames := 8, cells := 0, slots := 0, locals := 187 }
set_option maxRecDepth 100000 in
set_option maxHeartbeats 4000000 in
theorem g_Mo_lull_b64 {l : Launch} {K : sx_K} {X : sx_T}  {k24 : Int32 → Int32 → Int32 → Int32 → sx_M → sx_L → Prop} {Q : Int32 → sx_M → sx_L → Prop} (hX : sx_C X K prog_13_method_102_code 6 "SensorTreeModel" (some .int) rm_Mo_lull l) (hK : kx_F K) (hE : sx_E X K (sx_Qi K Q))  (hk24 : ∀ (v1 : Int32) (v2 : Int32) (v3 : Int32) (v4 : Int32) (σ : sx_M) (τ : sx_L) , k24 v1 v2 v3 v4 σ τ → sx_G X K 6 24 [(0, .ref (K.2.2.1 50 0 0)), (1, .int v1), (2, .int v2), (3, .int v3), (4, .int v4)] [] (sx_H K σ τ)) (v1 : Int32) (v2 : Int32) (v3 : Int32) (v4 : Int32) (σ : sx_M) (τ : sx_L)  (h : wp_Mo_lull_b64 k24 Q  v1 v2 v3 v4 σ τ) : sx_G X K 6 64 [(0, .ref (K.2.2.1 50 0 0)), (1, .int v1), (2, .int v2), (3, .int v3), (4, .int v4)] [] (sx_H K σ τ) := by
  unfold wp_Mo_lull_b64 at h
  refine sx_iinc (pc2 := 67) hX 4 _ [(0, .ref (K.2.2.1 50 0 0)), (1, .int v1), (2, .int v2), (3, .int v3), (4, .int (v4 + 1))] [1, 2, 3, 4, 0] d_Mo_lull_64 rfl (v4 + 1) rfl (by decide) rfl rfl rfl ?_
  refine sx_goto (tgt := 24) hX d_Mo_lull_67 (by decide) ?_
  exact hk24 v1 v2 v3 (v4 + 1) _ _ h
set_option maxRecDepth 100000 in
set_option maxHeartbeats 4000000 in
theorem g_Mo_lull_b56 {l : Launch} {K : sx_K} {X : sx_T}  {k24 : Int32 → Int32 → Int32 → Int32 → sx_M → sx_L → Prop} {Q : Int32 → sx_M → sx_L → Prop} (hX : sx_C X K prog_13_method_102_code 6 "SensorTreeModel" (some .int) rm_Mo_lull l) (hK : kx_F K) (hE : sx_E X K (sx_Qi K Q))  (hk24 : ∀ (v1 : Int32) (v2 : Int32) (v3 : Int32) (v4 : Int32) (σ : sx_M) (τ : sx_L) , k24 v1 v2 v3 v4 σ τ → sx_G X K 6 24 [(0, .ref (K.2.2.1 50 0 0)), (1, .int v1), (2, .int v2), (3, .int v3), (4, .int v4)] [] (sx_H K σ τ)) (v1 : Int32) (v2 : Int32) (v4 : Int32) (w0 : Int32) (σ : sx_M) (τ : sx_L)  (h : wp_Mo_lull_b56 k24 Q  v1 v2 v4 w0 σ τ) : sx_G X K 6 56 [(0, .ref (K.2.2.1 50 0 0)), (1, .int v1), (2, .int v2), (4, .int v4)] [.int w0] (sx_H K σ τ) := by
  unfold wp_Mo_lull_b56 at h
  refine sx_istore_n (pc2 := 57) hX _ [(0, .ref (K.2.2.1 50 0 0)), (1, .int v1), (2, .int v2), (3, .int w0), (4, .int v4)] [1, 2, 3, 0, 4] d_Mo_lull_56 rfl (by decide) rfl rfl rfl ?_
  refine sx_iload_n (pc2 := 58) hX 3 d_Mo_lull_57 rfl rfl rfl ?_
  refine sx_iload_n (pc2 := 59) hX 2 d_Mo_lull_58 rfl rfl rfl ?_
  refine sx_icmp_le (tgt := 64) (pc2 := 62) hX d_Mo_lull_59 (by decide) rfl (fun hc1 => ?_) (fun hc1 => ?_)
  · replace h := sx_t h hc1
    exact g_Mo_lull_b64 hX hK hE  hk24 v1 v2 w0 v4 _ _ h
  · replace h := sx_f h hc1
    refine sx_iload_n (pc2 := 63) hX 3 d_Mo_lull_62 rfl rfl rfl ?_
    refine sx_istore_n (pc2 := 64) hX _ [(0, .ref (K.2.2.1 50 0 0)), (1, .int v1), (2, .int w0), (3, .int w0), (4, .int v4)] [1, 2, 0, 3, 4] d_Mo_lull_63 rfl (by decide) rfl rfl rfl ?_
    exact g_Mo_lull_b64 hX hK hE  hk24 v1 w0 w0 v4 _ _ h
set_option maxRecDepth 100000 in
set_option maxHeartbeats 4000000 in
theorem g_Mo_lull_b24 {l : Launch} {K : sx_K} {X : sx_T}   {Q : Int32 → sx_M → sx_L → Prop} (hX : sx_C X K prog_13_method_102_code 6 "SensorTreeModel" (some .int) rm_Mo_lull l) (hK : kx_F K) (hE : sx_E X K (sx_Qi K Q))  : ∀ (f : Nat) (v1 : Int32) (v2 : Int32) (v3 : Int32) (v4 : Int32) (σ : sx_M) (τ : sx_L) , wp_Mo_lull_b24 Q f v1 v2 v3 v4 σ τ → sx_G X K 6 24 [(0, .ref (K.2.2.1 50 0 0)), (1, .int v1), (2, .int v2), (3, .int v3), (4, .int v4)] [] (sx_H K σ τ) := by
  intro f
  induction f with
  | zero => intro v1 v2 v3 v4 σ τ h; exact (show False from h).elim
  | succ f ih =>
    intro v1 v2 v3 v4 σ τ h
    rw [wp_Mo_lull_b24] at h
    refine sx_iload (pc2 := 26) hX 4 d_Mo_lull_24 rfl rfl ?_
    refine sx_iload_n (pc2 := 27) hX 1 d_Mo_lull_26 rfl rfl rfl ?_
    refine sx_icmp_ge (tgt := 70) (pc2 := 30) hX d_Mo_lull_27 (by decide) rfl (fun hc2 => ?_) (fun hc2 => ?_)
    · replace h := sx_t h hc2
      refine sx_iload_n (pc2 := 71) hX 2 d_Mo_lull_70 rfl rfl rfl ?_
      exact sx_iret hX hE h d_Mo_lull_71
    · replace h := sx_f h hc2
      refine sx_aload_n (pc2 := 31) hX 0 d_Mo_lull_30 rfl rfl rfl ?_
      refine cl_Mo_357 (pc2 := 34) hX hK h  ⟨Nat.le_of_ble_eq_true rfl, Nat.le_of_ble_eq_true rfl⟩ (Nat.le_of_ble_eq_true rfl) d_Mo_lull_31 rfl (fun r3 σ3 τ3 h => ?_)
      refine sx_istore (pc2 := 36) hX _ [(0, .ref (K.2.2.1 50 0 0)), (1, .int v1), (2, .int v2), (3, .int v3), (4, .int v4), (5, .int r3)] [1, 2, 3, 4, 5, 0] d_Mo_lull_34 (by decide) rfl rfl rfl ?_
      refine sx_aload_n (pc2 := 37) hX 0 d_Mo_lull_36 rfl rfl rfl ?_
      refine cl_Mo_302 (pc2 := 40) hX hK h  ⟨Nat.le_of_ble_eq_true rfl, Nat.le_of_ble_eq_true rfl⟩ (Nat.le_of_ble_eq_true rfl) d_Mo_lull_37 rfl (fun σ4 τ4 h => ?_)
      refine sx_aload_n (pc2 := 41) hX 0 d_Mo_lull_40 rfl rfl rfl ?_
      refine cl_Mo_357 (pc2 := 44) hX hK h  ⟨Nat.le_of_ble_eq_true rfl, Nat.le_of_ble_eq_true rfl⟩ (Nat.le_of_ble_eq_true rfl) d_Mo_lull_41 rfl (fun r5 σ5 τ5 h => ?_)
      refine sx_iload (pc2 := 46) hX 5 d_Mo_lull_44 rfl rfl ?_
      refine sx_icmp_ne (tgt := 55) (pc2 := 49) hX d_Mo_lull_46 (by decide) rfl (fun hc6 => ?_) (fun hc6 => ?_)
      · replace h := sx_f h hc6
        refine sx_iconst (v := 0) (pc2 := 56) hX d_Mo_lull_55 (by decide) rfl ?_
        refine sx_sub [(0, .ref (K.2.2.1 50 0 0)), (1, .int v1), (2, .int v2), (4, .int v4)] [0, 1, 2, 4] rfl ?_
        exact g_Mo_lull_b56 hX hK hE  ih v1 v2 v4 0 _ _ h
      · replace h := sx_t h hc6
        refine sx_iload_n (pc2 := 50) hX 3 d_Mo_lull_49 rfl rfl rfl ?_
        refine sx_iconst (v := 1) (pc2 := 51) hX d_Mo_lull_50 (by decide) rfl ?_
        refine sx_iadd (pc2 := 52) hX d_Mo_lull_51 rfl ?_
        refine sx_goto (tgt := 56) hX d_Mo_lull_52 (by decide) ?_
        refine sx_sub [(0, .ref (K.2.2.1 50 0 0)), (1, .int v1), (2, .int v2), (4, .int v4)] [0, 1, 2, 4] rfl ?_
        exact g_Mo_lull_b56 hX hK hE  ih v1 v2 v4 (v3 + 1) _ _ h
set_option maxRecDepth 100000 in
set_option maxHeartbeats 4000000 in
theorem c_Mo_lull {l : Launch} {K : sx_K} (hK : kx_F K) (x1 : Int32) (σ : sx_M) (τ : sx_L) (Q : Int32 → sx_M → sx_L → Prop)  (h : wp_Mo_lull x1 σ τ Q) : Met l y_Mo_lull (sx_wd y_Mo_lull prog_13_method_102_code 6 (some .int)) rm_Mo_lull (sx_Pc K [.ref (K.2.2.1 50 0 0), .int x1] σ τ) (sx_Qi K Q) 0 0 (sx_A K) := by
  refine sx_met (by decide) (Nat.le_of_ble_eq_true rfl) (fun X hX hE => ?_)
  replace hX : sx_C X K prog_13_method_102_code 6 "SensorTreeModel" (some .int) rm_Mo_lull l := hX
  show sx_G X K 6 0 [(0, .ref (K.2.2.1 50 0 0)), (1, .int x1)] [] (sx_H K σ τ)
  unfold wp_Mo_lull at h
  refine sx_iload_n (pc2 := 1) hX 1 d_Mo_lull_0 rfl rfl rfl ?_
  refine sx_iconst (v := 1) (pc2 := 2) hX d_Mo_lull_1 (by decide) rfl ?_
  refine sx_sipush (v := 200) (pc2 := 5) hX d_Mo_lull_2 (by decide) rfl ?_
  refine cl_Mo_216 (pc2 := 8) hX hK h  ⟨Nat.le_of_ble_eq_true rfl, Nat.le_of_ble_eq_true rfl⟩ (Nat.le_of_ble_eq_true rfl) d_Mo_lull_5 rfl (fun r7 σ7 τ7 h => ?_)
  refine sx_if_ne (tgt := 13) (pc2 := 11) hX d_Mo_lull_8 (by decide) rfl (fun hc8 => ?_) (fun hc8 => ?_)
  · replace h := sx_f h hc8
    refine sx_aload_n (pc2 := 14) hX 0 d_Mo_lull_13 rfl rfl rfl ?_
    refine cl_Mo_317 (pc2 := 17) hX hK h  ⟨Nat.le_of_ble_eq_true rfl, Nat.le_of_ble_eq_true rfl⟩ (Nat.le_of_ble_eq_true rfl) d_Mo_lull_14 rfl (fun σ9 τ9 h => ?_)
    refine sx_iconst (v := 0) (pc2 := 18) hX d_Mo_lull_17 (by decide) rfl ?_
    refine sx_istore_n (pc2 := 19) hX _ [(0, .ref (K.2.2.1 50 0 0)), (1, .int x1), (2, .int 0)] [1, 2, 0] d_Mo_lull_18 rfl (by decide) rfl rfl rfl ?_
    refine sx_iconst (v := 0) (pc2 := 20) hX d_Mo_lull_19 (by decide) rfl ?_
    refine sx_istore_n (pc2 := 21) hX _ [(0, .ref (K.2.2.1 50 0 0)), (1, .int x1), (2, .int 0), (3, .int 0)] [1, 2, 3, 0] d_Mo_lull_20 rfl (by decide) rfl rfl rfl ?_
    refine sx_iconst (v := 0) (pc2 := 22) hX d_Mo_lull_21 (by decide) rfl ?_
    refine sx_istore (pc2 := 24) hX _ [(0, .ref (K.2.2.1 50 0 0)), (1, .int x1), (2, .int 0), (3, .int 0), (4, .int 0)] [1, 2, 3, 4, 0] d_Mo_lull_22 (by decide) rfl rfl rfl ?_
    obtain ⟨f24, h⟩ := h
    exact g_Mo_lull_b24 hX hK hE   f24 x1 0 0 0 _ _ h
  · replace h := sx_t h hc8
    refine sx_iconst (v := (-1)) (pc2 := 12) hX d_Mo_lull_11 (by decide) rfl ?_
    exact sx_iret hX hE h d_Mo_lull_12
def y_Mo_stretch : MethodName := ⟨"SensorTreeModel", "stretch", "()I"⟩
theorem hy_Mo_stretch : y_Mo_stretch.cls ≠ "java/lang/invoke/MethodHandle" ∧ y_Mo_stretch.cls ≠ "java/lang/invoke/VarHandle" ∧ (parseMethodDescriptor y_Mo_stretch.desc).map (fun d => d.parameters.length) = some 0 := by decide +kernel
theorem d_Mo_stretch_0 : decode prog_13_method_103_code 0 = .ok (.aload_n 0, 1) := by decide +kernel
theorem d_Mo_stretch_1 : decode prog_13_method_103_code 1 = .ok (.invokevirtual 317, 3) := by decide +kernel
theorem d_Mo_stretch_4 : decode prog_13_method_103_code 4 = .ok (.aload_n 0, 1) := by decide +kernel
theorem d_Mo_stretch_5 : decode prog_13_method_103_code 5 = .ok (.iconst (-1), 1) := by decide +kernel
theorem d_Mo_stretch_6 : decode prog_13_method_103_code 6 = .ok (.invokevirtual 344, 3) := by decide +kernel
theorem d_Mo_stretch_9 : decode prog_13_method_103_code 9 = .ok (.iconst 0, 1) := by decide +kernel
theorem d_Mo_stretch_10 : decode prog_13_method_103_code 10 = .ok (.istore_n 1, 1) := by decide +kernel
theorem d_Mo_stretch_11 : decode prog_13_method_103_code 11 = .ok (.iconst 0, 1) := by decide +kernel
theorem d_Mo_stretch_12 : decode prog_13_method_103_code 12 = .ok (.istore_n 2, 1) := by decide +kernel
theorem d_Mo_stretch_13 : decode prog_13_method_103_code 13 = .ok (.iload_n 2, 1) := by decide +kernel
theorem d_Mo_stretch_14 : decode prog_13_method_103_code 14 = .ok (.aload_n 0, 1) := by decide +kernel
theorem d_Mo_stretch_15 : decode prog_13_method_103_code 15 = .ok (.getfield 40, 3) := by decide +kernel
theorem d_Mo_stretch_18 : decode prog_13_method_103_code 18 = .ok (.aload_n 0, 1) := by decide +kernel
theorem d_Mo_stretch_19 : decode prog_13_method_103_code 19 = .ok (.getfield 170, 3) := by decide +kernel
theorem d_Mo_stretch_22 : decode prog_13_method_103_code 22 = .ok (.iaload, 1) := by decide +kernel
theorem d_Mo_stretch_23 : decode prog_13_method_103_code 23 = .ok (.if_icmp .ge 57, 3) := by decide +kernel
theorem d_Mo_stretch_26 : decode prog_13_method_103_code 26 = .ok (.aload_n 0, 1) := by decide +kernel
theorem d_Mo_stretch_27 : decode prog_13_method_103_code 27 = .ok (.iload_n 2, 1) := by decide +kernel
theorem d_Mo_stretch_28 : decode prog_13_method_103_code 28 = .ok (.invokevirtual 252, 3) := by decide +kernel
theorem d_Mo_stretch_31 : decode prog_13_method_103_code 31 = .ok (.ifCond .eq 43, 3) := by decide +kernel
theorem d_Mo_stretch_34 : decode prog_13_method_103_code 34 = .ok (.aload_n 0, 1) := by decide +kernel
theorem d_Mo_stretch_35 : decode prog_13_method_103_code 35 = .ok (.iload_n 2, 1) := by decide +kernel
theorem d_Mo_stretch_36 : decode prog_13_method_103_code 36 = .ok (.iconst 1, 1) := by decide +kernel
theorem d_Mo_stretch_37 : decode prog_13_method_103_code 37 = .ok (.invokevirtual 246, 3) := by decide +kernel
theorem d_Mo_stretch_40 : decode prog_13_method_103_code 40 = .ok (.sipush 9999, 3) := by decide +kernel
theorem d_Mo_stretch_43 : decode prog_13_method_103_code 43 = .ok (.if_icmp .ge 31, 3) := by decide +kernel
theorem d_Mo_stretch_46 : decode prog_13_method_103_code 46 = .ok (.aload_n 0, 1) := by decide +kernel
theorem d_Mo_stretch_47 : decode prog_13_method_103_code 47 = .ok (.getfield 89, 3) := by decide +kernel
theorem d_Mo_stretch_50 : decode prog_13_method_103_code 50 = .ok (.iload_n 2, 1) := by decide +kernel
theorem d_Mo_stretch_51 : decode prog_13_method_103_code 51 = .ok (.iaload, 1) := by decide +kernel
theorem d_Mo_stretch_52 : decode prog_13_method_103_code 52 = .ok (.sipush 9999, 3) := by decide +kernel
theorem d_Mo_stretch_55 : decode prog_13_method_103_code 55 = .ok (.if_icmp .ge 19, 3) := by decide +kernel
theorem d_Mo_stretch_58 : decode prog_13_method_103_code 58 = .ok (.iload_n 1, 1) := by decide +kernel
theorem d_Mo_stretch_59 : decode prog_13_method_103_code 59 = .ok (.aload_n 0, 1) := by decide +kernel
theorem d_Mo_stretch_60 : decode prog_13_method_103_code 60 = .ok (.iload_n 2, 1) := by decide +kernel
theorem d_Mo_stretch_61 : decode prog_13_method_103_code 61 = .ok (.iconst 1, 1) := by decide +kernel
theorem d_Mo_stretch_62 : decode prog_13_method_103_code 62 = .ok (.invokevirtual 246, 3) := by decide +kernel
theorem d_Mo_stretch_65 : decode prog_13_method_103_code 65 = .ok (.aload_n 0, 1) := by decide +kernel
theorem d_Mo_stretch_66 : decode prog_13_method_103_code 66 = .ok (.getfield 89, 3) := by decide +kernel
theorem d_Mo_stretch_69 : decode prog_13_method_103_code 69 = .ok (.iload_n 2, 1) := by decide +kernel
theorem d_Mo_stretch_70 : decode prog_13_method_103_code 70 = .ok (.iaload, 1) := by decide +kernel
theorem d_Mo_stretch_71 : decode prog_13_method_103_code 71 = .ok (.isub, 1) := by decide +kernel
theorem d_Mo_stretch_72 : decode prog_13_method_103_code 72 = .ok (.iadd, 1) := by decide +kernel
theorem d_Mo_stretch_73 : decode prog_13_method_103_code 73 = .ok (.istore_n 1, 1) := by decide +kernel
theorem d_Mo_stretch_74 : decode prog_13_method_103_code 74 = .ok (.iinc 2 1, 3) := by decide +kernel
theorem d_Mo_stretch_77 : decode prog_13_method_103_code 77 = .ok (.goto (-64), 3) := by decide +kernel
theorem d_Mo_stretch_80 : decode prog_13_method_103_code 80 = .ok (.iload_n 1, 1) := by decide +kernel
theorem d_Mo_stretch_81 : decode prog_13_method_103_code 81 = .ok (.ireturn, 1) := by decide +kernel
def wp_Mo_stretch_b74  (k13 : Int32 → Int32 → sx_M → sx_L → Prop) (Q : Int32 → sx_M → sx_L → Prop) (v1 : Int32) (v2 : Int32) (σ : sx_M) (τ : sx_L) : Prop := k13 v1 (v2 + 1) σ τ
def wp_Mo_stretch_b13   (Q : Int32 → sx_M → sx_L → Prop) : Nat → Int32 → Int32 → sx_M → sx_L → Prop
  | 0, _, _, _, _ => False
  | f + 1, v1, v2, σ, τ => vp_in (σ 50 0 0 17) 2 ∧ (if σ 58 0 0 (σ 50 0 0 17).toNatClampNeg ≤ v2 then (Q v1 σ τ) else (wp_Mo_isOn v2 σ τ (fun r3 σ3 τ3 => if r3 = 0 then (wp_Mo_stretch_b74 (wp_Mo_stretch_b13 Q f) Q v1 v2 σ3 τ3) else (wp_Mo_of v2 (1 : Int32) σ3 τ3 (fun r5 σ5 τ5 => if 9999 ≤ r5 then (wp_Mo_stretch_b74 (wp_Mo_stretch_b13 Q f) Q v1 v2 σ5 τ5) else (vp_in v2 7 ∧ (if 9999 ≤ σ5 74 0 0 v2.toNatClampNeg then (wp_Mo_stretch_b74 (wp_Mo_stretch_b13 Q f) Q v1 v2 σ5 τ5) else (wp_Mo_of v2 (1 : Int32) σ5 τ5 (fun r9 σ9 τ9 => vp_in v2 7 ∧ (wp_Mo_stretch_b74 (wp_Mo_stretch_b13 Q f) Q (v1 + (r9 - (σ9 74 0 0 v2.toNatClampNeg))) v2 σ9 τ9))))))))))
def wp_Mo_stretch  (σ : sx_M) (τ : sx_L) (Q : Int32 → sx_M → sx_L → Prop) : Prop := wp_Mo_copies σ τ (fun σ11 τ11 => wp_Mo_finds (-1 : Int32) σ11 τ11 (fun σ12 τ12 => ∃ f13, wp_Mo_stretch_b13 Q f13 0 0 σ12 τ12))
abbrev rm_Mo_stretch : Room := { frames := 3, cells := 0, slots := 0, locals := 70 }
set_option maxRecDepth 100000 in
set_option maxHeartbeats 4000000 in
theorem g_Mo_stretch_b74 {l : Launch} {K : sx_K} {X : sx_T}  {k13 : Int32 → Int32 → sx_M → sx_L → Prop} {Q : Int32 → sx_M → sx_L → Prop} (hX : sx_C X K prog_13_method_103_code 3 "SensorTreeModel" (some .int) rm_Mo_stretch l) (hK : kx_F K) (hE : sx_E X K (sx_Qi K Q))  (hk13 : ∀ (v1 : Int32) (v2 : Int32) (σ : sx_M) (τ : sx_L) , k13 v1 v2 σ τ → sx_G X K 3 13 [(0, .ref (K.2.2.1 50 0 0)), (1, .int v1), (2, .int v2)] [] (sx_H K σ τ)) (v1 : Int32) (v2 : Int32) (σ : sx_M) (τ : sx_L)  (h : wp_Mo_stretch_b74 k13 Q  v1 v2 σ τ) : sx_G X K 3 74 [(0, .ref (K.2.2.1 50 0 0)), (1, .int v1), (2, .int v2)] [] (sx_H K σ τ) := by
  unfold wp_Mo_stretch_b74 at h
  refine sx_iinc (pc2 := 77) hX 2 _ [(0, .ref (K.2.2.1 50 0 0)), (1, .int v1), (2, .int (v2 + 1))] [1, 2, 0] d_Mo_stretch_74 rfl (v2 + 1) rfl (by decide) rfl rfl rfl ?_
  refine sx_goto (tgt := 13) hX d_Mo_stretch_77 (by decide) ?_
  exact hk13 v1 (v2 + 1) _ _ h
set_option maxRecDepth 100000 in
set_option maxHeartbeats 4000000 in
theorem g_Mo_stretch_b13 {l : Launch} {K : sx_K} {X : sx_T}   {Q : Int32 → sx_M → sx_L → Prop} (hX : sx_C X K prog_13_method_103_code 3 "SensorTreeModel" (some .int) rm_Mo_stretch l) (hK : kx_F K) (hE : sx_E X K (sx_Qi K Q))  : ∀ (f : Nat) (v1 : Int32) (v2 : Int32) (σ : sx_M) (τ : sx_L) , wp_Mo_stretch_b13 Q f v1 v2 σ τ → sx_G X K 3 13 [(0, .ref (K.2.2.1 50 0 0)), (1, .int v1), (2, .int v2)] [] (sx_H K σ τ) := by
  intro f
  induction f with
  | zero => intro v1 v2 σ τ h; exact (show False from h).elim
  | succ f ih =>
    intro v1 v2 σ τ h
    rw [wp_Mo_stretch_b13] at h
    refine sx_iload_n (pc2 := 14) hX 2 d_Mo_stretch_13 rfl rfl rfl ?_
    refine sx_aload_n (pc2 := 15) hX 0 d_Mo_stretch_14 rfl rfl rfl ?_
    refine fg_Mo_40 (pc2 := 18) hX (kr_50 hK) d_Mo_stretch_15 rfl ?_
    refine sx_aload_n (pc2 := 19) hX 0 d_Mo_stretch_18 rfl rfl rfl ?_
    refine fg_Mo_170 (pc2 := 22) hX (kr_50 hK) d_Mo_stretch_19 rfl ?_
    obtain ⟨hc1, h⟩ := h
    refine sx_iald (pc2 := 23) hX (kr_58 hK) rfl hc1 d_Mo_stretch_22 rfl ?_
    refine sx_icmp_ge (tgt := 80) (pc2 := 26) hX d_Mo_stretch_23 (by decide) rfl (fun hc2 => ?_) (fun hc2 => ?_)
    · replace h := sx_t h hc2
      refine sx_iload_n (pc2 := 81) hX 1 d_Mo_stretch_80 rfl rfl rfl ?_
      exact sx_iret hX hE h d_Mo_stretch_81
    · replace h := sx_f h hc2
      refine sx_aload_n (pc2 := 27) hX 0 d_Mo_stretch_26 rfl rfl rfl ?_
      refine sx_iload_n (pc2 := 28) hX 2 d_Mo_stretch_27 rfl rfl rfl ?_
      refine cl_Mo_252 (pc2 := 31) hX hK h  ⟨Nat.le_of_ble_eq_true rfl, Nat.le_of_ble_eq_true rfl⟩ (Nat.le_of_ble_eq_true rfl) d_Mo_stretch_28 rfl (fun r3 σ3 τ3 h => ?_)
      refine sx_if_eq (tgt := 74) (pc2 := 34) hX d_Mo_stretch_31 (by decide) rfl (fun hc4 => ?_) (fun hc4 => ?_)
      · replace h := sx_t h hc4
        exact g_Mo_stretch_b74 hX hK hE  ih v1 v2 _ _ h
      · replace h := sx_f h hc4
        refine sx_aload_n (pc2 := 35) hX 0 d_Mo_stretch_34 rfl rfl rfl ?_
        refine sx_iload_n (pc2 := 36) hX 2 d_Mo_stretch_35 rfl rfl rfl ?_
        refine sx_iconst (v := 1) (pc2 := 37) hX d_Mo_stretch_36 (by decide) rfl ?_
        refine cl_Mo_246 (pc2 := 40) hX hK h  ⟨Nat.le_of_ble_eq_true rfl, Nat.le_of_ble_eq_true rfl⟩ (Nat.le_of_ble_eq_true rfl) d_Mo_stretch_37 rfl (fun r5 σ5 τ5 h => ?_)
        refine sx_sipush (v := 9999) (pc2 := 43) hX d_Mo_stretch_40 (by decide) rfl ?_
        refine sx_icmp_ge (tgt := 74) (pc2 := 46) hX d_Mo_stretch_43 (by decide) rfl (fun hc6 => ?_) (fun hc6 => ?_)
        · replace h := sx_t h hc6
          exact g_Mo_stretch_b74 hX hK hE  ih v1 v2 _ _ h
        · replace h := sx_f h hc6
          refine sx_aload_n (pc2 := 47) hX 0 d_Mo_stretch_46 rfl rfl rfl ?_
          refine fg_Mo_89 (pc2 := 50) hX (kr_50 hK) d_Mo_stretch_47 rfl ?_
          refine sx_iload_n (pc2 := 51) hX 2 d_Mo_stretch_50 rfl rfl rfl ?_
          obtain ⟨hc7, h⟩ := h
          refine sx_iald (pc2 := 52) hX (kr_74 hK) rfl hc7 d_Mo_stretch_51 rfl ?_
          refine sx_sipush (v := 9999) (pc2 := 55) hX d_Mo_stretch_52 (by decide) rfl ?_
          refine sx_icmp_ge (tgt := 74) (pc2 := 58) hX d_Mo_stretch_55 (by decide) rfl (fun hc8 => ?_) (fun hc8 => ?_)
          · replace h := sx_t h hc8
            exact g_Mo_stretch_b74 hX hK hE  ih v1 v2 _ _ h
          · replace h := sx_f h hc8
            refine sx_iload_n (pc2 := 59) hX 1 d_Mo_stretch_58 rfl rfl rfl ?_
            refine sx_aload_n (pc2 := 60) hX 0 d_Mo_stretch_59 rfl rfl rfl ?_
            refine sx_iload_n (pc2 := 61) hX 2 d_Mo_stretch_60 rfl rfl rfl ?_
            refine sx_iconst (v := 1) (pc2 := 62) hX d_Mo_stretch_61 (by decide) rfl ?_
            refine cl_Mo_246 (pc2 := 65) hX hK h  ⟨Nat.le_of_ble_eq_true rfl, Nat.le_of_ble_eq_true rfl⟩ (Nat.le_of_ble_eq_true rfl) d_Mo_stretch_62 rfl (fun r9 σ9 τ9 h => ?_)
            refine sx_aload_n (pc2 := 66) hX 0 d_Mo_stretch_65 rfl rfl rfl ?_
            refine fg_Mo_89 (pc2 := 69) hX (kr_50 hK) d_Mo_stretch_66 rfl ?_
            refine sx_iload_n (pc2 := 70) hX 2 d_Mo_stretch_69 rfl rfl rfl ?_
            obtain ⟨hc10, h⟩ := h
            refine sx_iald (pc2 := 71) hX (kr_74 hK) rfl hc10 d_Mo_stretch_70 rfl ?_
            refine sx_isub (pc2 := 72) hX d_Mo_stretch_71 rfl ?_
            refine sx_iadd (pc2 := 73) hX d_Mo_stretch_72 rfl ?_
            refine sx_istore_n (pc2 := 74) hX _ [(0, .ref (K.2.2.1 50 0 0)), (1, .int (v1 + (r9 - (σ9 74 0 0 v2.toNatClampNeg)))), (2, .int v2)] [1, 0, 2] d_Mo_stretch_73 rfl (by decide) rfl rfl rfl ?_
            exact g_Mo_stretch_b74 hX hK hE  ih (v1 + (r9 - (σ9 74 0 0 v2.toNatClampNeg))) v2 _ _ h
set_option maxRecDepth 100000 in
set_option maxHeartbeats 4000000 in
theorem c_Mo_stretch {l : Launch} {K : sx_K} (hK : kx_F K)  (σ : sx_M) (τ : sx_L) (Q : Int32 → sx_M → sx_L → Prop)  (h : wp_Mo_stretch σ τ Q) : Met l y_Mo_stretch (sx_wd y_Mo_stretch prog_13_method_103_code 3 (some .int)) rm_Mo_stretch (sx_Pc K [.ref (K.2.2.1 50 0 0)] σ τ) (sx_Qi K Q) 0 0 (sx_A K) := by
  refine sx_met (by decide) (Nat.le_of_ble_eq_true rfl) (fun X hX hE => ?_)
  replace hX : sx_C X K prog_13_method_103_code 3 "SensorTreeModel" (some .int) rm_Mo_stretch l := hX
  show sx_G X K 3 0 [(0, .ref (K.2.2.1 50 0 0))] [] (sx_H K σ τ)
  unfold wp_Mo_stretch at h
  refine sx_aload_n (pc2 := 1) hX 0 d_Mo_stretch_0 rfl rfl rfl ?_
  refine cl_Mo_317 (pc2 := 4) hX hK h  ⟨Nat.le_of_ble_eq_true rfl, Nat.le_of_ble_eq_true rfl⟩ (Nat.le_of_ble_eq_true rfl) d_Mo_stretch_1 rfl (fun σ11 τ11 h => ?_)
  refine sx_aload_n (pc2 := 5) hX 0 d_Mo_stretch_4 rfl rfl rfl ?_
  refine sx_iconst (v := (-1)) (pc2 := 6) hX d_Mo_stretch_5 (by decide) rfl ?_
  refine cl_Mo_344 (pc2 := 9) hX hK h  ⟨Nat.le_of_ble_eq_true rfl, Nat.le_of_ble_eq_true rfl⟩ (Nat.le_of_ble_eq_true rfl) d_Mo_stretch_6 rfl (fun σ12 τ12 h => ?_)
  refine sx_iconst (v := 0) (pc2 := 10) hX d_Mo_stretch_9 (by decide) rfl ?_
  refine sx_istore_n (pc2 := 11) hX _ [(0, .ref (K.2.2.1 50 0 0)), (1, .int 0)] [1, 0] d_Mo_stretch_10 rfl (by decide) rfl rfl rfl ?_
  refine sx_iconst (v := 0) (pc2 := 12) hX d_Mo_stretch_11 (by decide) rfl ?_
  refine sx_istore_n (pc2 := 13) hX _ [(0, .ref (K.2.2.1 50 0 0)), (1, .int 0), (2, .int 0)] [1, 2, 0] d_Mo_stretch_12 rfl (by decide) rfl rfl rfl ?_
  obtain ⟨f13, h⟩ := h
  exact g_Mo_stretch_b13 hX hK hE   f13 0 0 _ _ h
def y_Mo_then : MethodName := ⟨"SensorTreeModel", "then", "(III)I"⟩
theorem hy_Mo_then : y_Mo_then.cls ≠ "java/lang/invoke/MethodHandle" ∧ y_Mo_then.cls ≠ "java/lang/invoke/VarHandle" ∧ (parseMethodDescriptor y_Mo_then.desc).map (fun d => d.parameters.length) = some 3 := by decide +kernel
theorem d_Mo_then_0 : decode prog_13_method_104_code 0 = .ok (.aload_n 0, 1) := by decide +kernel
theorem d_Mo_then_1 : decode prog_13_method_104_code 1 = .ok (.iload_n 1, 1) := by decide +kernel
theorem d_Mo_then_2 : decode prog_13_method_104_code 2 = .ok (.invokevirtual 311, 3) := by decide +kernel
theorem d_Mo_then_5 : decode prog_13_method_104_code 5 = .ok (.ifCond .eq 23, 3) := by decide +kernel
theorem d_Mo_then_8 : decode prog_13_method_104_code 8 = .ok (.iload_n 2, 1) := by decide +kernel
theorem d_Mo_then_9 : decode prog_13_method_104_code 9 = .ok (.iconst 0, 1) := by decide +kernel
theorem d_Mo_then_10 : decode prog_13_method_104_code 10 = .ok (.sipush 200, 3) := by decide +kernel
theorem d_Mo_then_13 : decode prog_13_method_104_code 13 = .ok (.invokestatic 216, 3) := by decide +kernel
theorem d_Mo_then_16 : decode prog_13_method_104_code 16 = .ok (.ifCond .eq 12, 3) := by decide +kernel
theorem d_Mo_then_19 : decode prog_13_method_104_code 19 = .ok (.iload_n 3, 1) := by decide +kernel
theorem d_Mo_then_20 : decode prog_13_method_104_code 20 = .ok (.iconst 0, 1) := by decide +kernel
theorem d_Mo_then_21 : decode prog_13_method_104_code 21 = .ok (.iconst 1, 1) := by decide +kernel
theorem d_Mo_then_22 : decode prog_13_method_104_code 22 = .ok (.invokestatic 216, 3) := by decide +kernel
theorem d_Mo_then_25 : decode prog_13_method_104_code 25 = .ok (.ifCond .ne 5, 3) := by decide +kernel
theorem d_Mo_then_28 : decode prog_13_method_104_code 28 = .ok (.iconst (-1), 1) := by decide +kernel
theorem d_Mo_then_29 : decode prog_13_method_104_code 29 = .ok (.ireturn, 1) := by decide +kernel
theorem d_Mo_then_30 : decode prog_13_method_104_code 30 = .ok (.aload_n 0, 1) := by decide +kernel
theorem d_Mo_then_31 : decode prog_13_method_104_code 31 = .ok (.invokevirtual 317, 3) := by decide +kernel
theorem d_Mo_then_34 : decode prog_13_method_104_code 34 = .ok (.aload_n 0, 1) := by decide +kernel
theorem d_Mo_then_35 : decode prog_13_method_104_code 35 = .ok (.iload_n 2, 1) := by decide +kernel
theorem d_Mo_then_36 : decode prog_13_method_104_code 36 = .ok (.invokevirtual 323, 3) := by decide +kernel
theorem d_Mo_then_39 : decode prog_13_method_104_code 39 = .ok (.aload_n 0, 1) := by decide +kernel
theorem d_Mo_then_40 : decode prog_13_method_104_code 40 = .ok (.iload_n 1, 1) := by decide +kernel
theorem d_Mo_then_41 : decode prog_13_method_104_code 41 = .ok (.iload_n 3, 1) := by decide +kernel
theorem d_Mo_then_42 : decode prog_13_method_104_code 42 = .ok (.ifCond .ne 7, 3) := by decide +kernel
theorem d_Mo_then_45 : decode prog_13_method_104_code 45 = .ok (.iconst 1, 1) := by decide +kernel
theorem d_Mo_then_46 : decode prog_13_method_104_code 46 = .ok (.goto 4, 3) := by decide +kernel
theorem d_Mo_then_49 : decode prog_13_method_104_code 49 = .ok (.iconst 2, 1) := by decide +kernel
theorem d_Mo_then_50 : decode prog_13_method_104_code 50 = .ok (.invokevirtual 246, 3) := by decide +kernel
theorem d_Mo_then_53 : decode prog_13_method_104_code 53 = .ok (.ireturn, 1) := by decide +kernel
def wp_Mo_then_b50   (Q : Int32 → sx_M → sx_L → Prop) (w1 : Int32) (w2 : Int32) (σ : sx_M) (τ : sx_L) : Prop := wp_Mo_of w1 w2 σ τ (fun r1 σ1 τ1 => Q r1 σ1 τ1)
def wp_Mo_then_b28   (Q : Int32 → sx_M → sx_L → Prop)  (σ : sx_M) (τ : sx_L) : Prop := Q (-1) σ τ
def wp_Mo_then (x1 : Int32) (x2 : Int32) (x3 : Int32) (σ : sx_M) (τ : sx_L) (Q : Int32 → sx_M → sx_L → Prop) : Prop := wp_Mo_isPost x1 σ τ (fun r2 σ2 τ2 => if r2 = 0 then (wp_Mo_then_b28 Q σ2 τ2) else (wp_Mo_in x2 (0 : Int32) (200 : Int32) σ2 τ2 (fun r4 σ4 τ4 => if r4 = 0 then (wp_Mo_then_b28 Q σ4 τ4) else (wp_Mo_in x3 (0 : Int32) (1 : Int32) σ4 τ4 (fun r6 σ6 τ6 => if r6 = 0 then (wp_Mo_then_b28 Q σ6 τ6) else (wp_Mo_copies σ6 τ6 (fun σ8 τ8 => wp_Mo_goes x2 σ8 τ8 (fun σ9 τ9 => if x3 = 0 then (wp_Mo_then_b50 Q x1 1 σ9 τ9) else (wp_Mo_then_b50 Q x1 2 σ9 τ9)))))))))
abbrev rm_Mo_then : Room := { frames := 9, cells := 0, slots := 0, locals := 209 }
set_option maxRecDepth 100000 in
set_option maxHeartbeats 4000000 in
theorem g_Mo_then_b50 {l : Launch} {K : sx_K} {X : sx_T}   {Q : Int32 → sx_M → sx_L → Prop} (hX : sx_C X K prog_13_method_104_code 4 "SensorTreeModel" (some .int) rm_Mo_then l) (hK : kx_F K) (hE : sx_E X K (sx_Qi K Q))  (w1 : Int32) (w2 : Int32) (σ : sx_M) (τ : sx_L)  (h : wp_Mo_then_b50 Q  w1 w2 σ τ) : sx_G X K 4 50 [] [.int w2, .int w1, .ref (K.2.2.1 50 0 0)] (sx_H K σ τ) := by
  unfold wp_Mo_then_b50 at h
  refine cl_Mo_246 (pc2 := 53) hX hK h  ⟨Nat.le_of_ble_eq_true rfl, Nat.le_of_ble_eq_true rfl⟩ (Nat.le_of_ble_eq_true rfl) d_Mo_then_50 rfl (fun r1 σ1 τ1 h => ?_)
  exact sx_iret hX hE h d_Mo_then_53
set_option maxRecDepth 100000 in
set_option maxHeartbeats 4000000 in
theorem g_Mo_then_b28 {l : Launch} {K : sx_K} {X : sx_T}   {Q : Int32 → sx_M → sx_L → Prop} (hX : sx_C X K prog_13_method_104_code 4 "SensorTreeModel" (some .int) rm_Mo_then l) (hK : kx_F K) (hE : sx_E X K (sx_Qi K Q))   (σ : sx_M) (τ : sx_L)  (h : wp_Mo_then_b28 Q  σ τ) : sx_G X K 4 28 [] [] (sx_H K σ τ) := by
  unfold wp_Mo_then_b28 at h
  refine sx_iconst (v := (-1)) (pc2 := 29) hX d_Mo_then_28 (by decide) rfl ?_
  exact sx_iret hX hE h d_Mo_then_29
set_option maxRecDepth 100000 in
set_option maxHeartbeats 4000000 in
theorem c_Mo_then {l : Launch} {K : sx_K} (hK : kx_F K) (x1 : Int32) (x2 : Int32) (x3 : Int32) (σ : sx_M) (τ : sx_L) (Q : Int32 → sx_M → sx_L → Prop)  (h : wp_Mo_then x1 x2 x3 σ τ Q) : Met l y_Mo_then (sx_wd y_Mo_then prog_13_method_104_code 4 (some .int)) rm_Mo_then (sx_Pc K [.ref (K.2.2.1 50 0 0), .int x1, .int x2, .int x3] σ τ) (sx_Qi K Q) 0 0 (sx_A K) := by
  refine sx_met (by decide) (Nat.le_of_ble_eq_true rfl) (fun X hX hE => ?_)
  replace hX : sx_C X K prog_13_method_104_code 4 "SensorTreeModel" (some .int) rm_Mo_then l := hX
  show sx_G X K 4 0 [(0, .ref (K.2.2.1 50 0 0)), (1, .int x1), (2, .int x2), (3, .int x3)] [] (sx_H K σ τ)
  unfold wp_Mo_then at h
  refine sx_aload_n (pc2 := 1) hX 0 d_Mo_then_0 rfl rfl rfl ?_
  refine sx_iload_n (pc2 := 2) hX 1 d_Mo_then_1 rfl rfl rfl ?_
  refine cl_Mo_311 (pc2 := 5) hX hK h  ⟨Nat.le_of_ble_eq_true rfl, Nat.le_of_ble_eq_true rfl⟩ (Nat.le_of_ble_eq_true rfl) d_Mo_then_2 rfl (fun r2 σ2 τ2 h => ?_)
  refine sx_if_eq (tgt := 28) (pc2 := 8) hX d_Mo_then_5 (by decide) rfl (fun hc3 => ?_) (fun hc3 => ?_)
  · replace h := sx_t h hc3
    refine sx_sub [] [] rfl ?_
    exact g_Mo_then_b28 hX hK hE   _ _ h
  · replace h := sx_f h hc3
    refine sx_iload_n (pc2 := 9) hX 2 d_Mo_then_8 rfl rfl rfl ?_
    refine sx_iconst (v := 0) (pc2 := 10) hX d_Mo_then_9 (by decide) rfl ?_
    refine sx_sipush (v := 200) (pc2 := 13) hX d_Mo_then_10 (by decide) rfl ?_
    refine cl_Mo_216 (pc2 := 16) hX hK h  ⟨Nat.le_of_ble_eq_true rfl, Nat.le_of_ble_eq_true rfl⟩ (Nat.le_of_ble_eq_true rfl) d_Mo_then_13 rfl (fun r4 σ4 τ4 h => ?_)
    refine sx_if_eq (tgt := 28) (pc2 := 19) hX d_Mo_then_16 (by decide) rfl (fun hc5 => ?_) (fun hc5 => ?_)
    · replace h := sx_t h hc5
      refine sx_sub [] [] rfl ?_
      exact g_Mo_then_b28 hX hK hE   _ _ h
    · replace h := sx_f h hc5
      refine sx_iload_n (pc2 := 20) hX 3 d_Mo_then_19 rfl rfl rfl ?_
      refine sx_iconst (v := 0) (pc2 := 21) hX d_Mo_then_20 (by decide) rfl ?_
      refine sx_iconst (v := 1) (pc2 := 22) hX d_Mo_then_21 (by decide) rfl ?_
      refine cl_Mo_216 (pc2 := 25) hX hK h  ⟨Nat.le_of_ble_eq_true rfl, Nat.le_of_ble_eq_true rfl⟩ (Nat.le_of_ble_eq_true rfl) d_Mo_then_22 rfl (fun r6 σ6 τ6 h => ?_)
      refine sx_if_ne (tgt := 30) (pc2 := 28) hX d_Mo_then_25 (by decide) rfl (fun hc7 => ?_) (fun hc7 => ?_)
      · replace h := sx_f h hc7
        refine sx_aload_n (pc2 := 31) hX 0 d_Mo_then_30 rfl rfl rfl ?_
        refine cl_Mo_317 (pc2 := 34) hX hK h  ⟨Nat.le_of_ble_eq_true rfl, Nat.le_of_ble_eq_true rfl⟩ (Nat.le_of_ble_eq_true rfl) d_Mo_then_31 rfl (fun σ8 τ8 h => ?_)
        refine sx_aload_n (pc2 := 35) hX 0 d_Mo_then_34 rfl rfl rfl ?_
        refine sx_iload_n (pc2 := 36) hX 2 d_Mo_then_35 rfl rfl rfl ?_
        refine cl_Mo_323 (pc2 := 39) hX hK h  ⟨Nat.le_of_ble_eq_true rfl, Nat.le_of_ble_eq_true rfl⟩ (Nat.le_of_ble_eq_true rfl) d_Mo_then_36 rfl (fun σ9 τ9 h => ?_)
        refine sx_aload_n (pc2 := 40) hX 0 d_Mo_then_39 rfl rfl rfl ?_
        refine sx_iload_n (pc2 := 41) hX 1 d_Mo_then_40 rfl rfl rfl ?_
        refine sx_iload_n (pc2 := 42) hX 3 d_Mo_then_41 rfl rfl rfl ?_
        refine sx_if_ne (tgt := 49) (pc2 := 45) hX d_Mo_then_42 (by decide) rfl (fun hc10 => ?_) (fun hc10 => ?_)
        · replace h := sx_f h hc10
          refine sx_iconst (v := 2) (pc2 := 50) hX d_Mo_then_49 (by decide) rfl ?_
          refine sx_sub [] [] rfl ?_
          exact g_Mo_then_b50 hX hK hE   x1 2 _ _ h
        · replace h := sx_t h hc10
          refine sx_iconst (v := 1) (pc2 := 46) hX d_Mo_then_45 (by decide) rfl ?_
          refine sx_goto (tgt := 50) hX d_Mo_then_46 (by decide) ?_
          refine sx_sub [] [] rfl ?_
          exact g_Mo_then_b50 hX hK hE   x1 1 _ _ h
      · replace h := sx_t h hc7
        refine sx_sub [] [] rfl ?_
        exact g_Mo_then_b28 hX hK hE   _ _ h
