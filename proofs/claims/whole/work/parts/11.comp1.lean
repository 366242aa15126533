def y_En_choose : MethodName := ⟨"SensorTree$Engine", "choose", "(I)V"⟩
theorem hy_En_choose : y_En_choose.cls ≠ "java/lang/invoke/MethodHandle" ∧ y_En_choose.cls ≠ "java/lang/invoke/VarHandle" ∧ (parseMethodDescriptor y_En_choose.desc).map (fun d => d.parameters.length) = some 1 := by decide +kernel
theorem d_En_choose_0 : decode prog_2_method_19_code 0 = .ok (.aload_n 0, 1) := by decide +kernel
theorem d_En_choose_1 : decode prog_2_method_19_code 1 = .ok (.getfield 22, 3) := by decide +kernel
theorem d_En_choose_4 : decode prog_2_method_19_code 4 = .ok (.getfield 78, 3) := by decide +kernel
theorem d_En_choose_7 : decode prog_2_method_19_code 7 = .ok (.iload_n 1, 1) := by decide +kernel
theorem d_En_choose_8 : decode prog_2_method_19_code 8 = .ok (.aaload, 1) := by decide +kernel
theorem d_En_choose_9 : decode prog_2_method_19_code 9 = .ok (.astore_n 2, 1) := by decide +kernel
theorem d_En_choose_10 : decode prog_2_method_19_code 10 = .ok (.iload_n 1, 1) := by decide +kernel
theorem d_En_choose_11 : decode prog_2_method_19_code 11 = .ok (.ifCond .eq 17, 3) := by decide +kernel
theorem d_En_choose_14 : decode prog_2_method_19_code 14 = .ok (.aload_n 2, 1) := by decide +kernel
theorem d_En_choose_15 : decode prog_2_method_19_code 15 = .ok (.getfield 130, 3) := by decide +kernel
theorem d_En_choose_18 : decode prog_2_method_19_code 18 = .ok (.ifCond .eq 10, 3) := by decide +kernel
theorem d_En_choose_21 : decode prog_2_method_19_code 21 = .ok (.aload_n 2, 1) := by decide +kernel
theorem d_En_choose_22 : decode prog_2_method_19_code 22 = .ok (.getfield 147, 3) := by decide +kernel
theorem d_En_choose_25 : decode prog_2_method_19_code 25 = .ok (.ifCond .le 4, 3) := by decide +kernel
theorem d_En_choose_28 : decode prog_2_method_19_code 28 = .ok (.return_, 1) := by decide +kernel
theorem d_En_choose_29 : decode prog_2_method_19_code 29 = .ok (.aload_n 2, 1) := by decide +kernel
theorem d_En_choose_30 : decode prog_2_method_19_code 30 = .ok (.getfield 156, 3) := by decide +kernel
theorem d_En_choose_33 : decode prog_2_method_19_code 33 = .ok (.istore_n 3, 1) := by decide +kernel
theorem d_En_choose_34 : decode prog_2_method_19_code 34 = .ok (.aload_n 2, 1) := by decide +kernel
theorem d_En_choose_35 : decode prog_2_method_19_code 35 = .ok (.getfield 137, 3) := by decide +kernel
theorem d_En_choose_38 : decode prog_2_method_19_code 38 = .ok (.istore 4, 2) := by decide +kernel
theorem d_En_choose_40 : decode prog_2_method_19_code 40 = .ok (.aload_n 0, 1) := by decide +kernel
theorem d_En_choose_41 : decode prog_2_method_19_code 41 = .ok (.getfield 22, 3) := by decide +kernel
theorem d_En_choose_44 : decode prog_2_method_19_code 44 = .ok (.iload_n 1, 1) := by decide +kernel
theorem d_En_choose_45 : decode prog_2_method_19_code 45 = .ok (.bipush (-2), 2) := by decide +kernel
theorem d_En_choose_47 : decode prog_2_method_19_code 47 = .ok (.invokevirtual 214, 3) := by decide +kernel
theorem d_En_choose_50 : decode prog_2_method_19_code 50 = .ok (.istore 5, 2) := by decide +kernel
theorem d_En_choose_52 : decode prog_2_method_19_code 52 = .ok (.aload_n 0, 1) := by decide +kernel
theorem d_En_choose_53 : decode prog_2_method_19_code 53 = .ok (.iload_n 1, 1) := by decide +kernel
theorem d_En_choose_54 : decode prog_2_method_19_code 54 = .ok (.aload_n 0, 1) := by decide +kernel
theorem d_En_choose_55 : decode prog_2_method_19_code 55 = .ok (.iload_n 1, 1) := by decide +kernel
theorem d_En_choose_56 : decode prog_2_method_19_code 56 = .ok (.iload 5, 2) := by decide +kernel
theorem d_En_choose_58 : decode prog_2_method_19_code 58 = .ok (.invokevirtual 217, 3) := by decide +kernel
theorem d_En_choose_61 : decode prog_2_method_19_code 61 = .ok (.ifCond .eq 8, 3) := by decide +kernel
theorem d_En_choose_64 : decode prog_2_method_19_code 64 = .ok (.iload 4, 2) := by decide +kernel
theorem d_En_choose_66 : decode prog_2_method_19_code 66 = .ok (.goto 5, 3) := by decide +kernel
theorem d_En_choose_69 : decode prog_2_method_19_code 69 = .ok (.iload 5, 2) := by decide +kernel
theorem d_En_choose_71 : decode prog_2_method_19_code 71 = .ok (.invokevirtual 220, 3) := by decide +kernel
theorem d_En_choose_74 : decode prog_2_method_19_code 74 = .ok (.aload_n 2, 1) := by decide +kernel
theorem d_En_choose_75 : decode prog_2_method_19_code 75 = .ok (.getfield 156, 3) := by decide +kernel
theorem d_En_choose_78 : decode prog_2_method_19_code 78 = .ok (.iload_n 3, 1) := by decide +kernel
theorem d_En_choose_79 : decode prog_2_method_19_code 79 = .ok (.if_icmp .eq 8, 3) := by decide +kernel
theorem d_En_choose_82 : decode prog_2_method_19_code 82 = .ok (.aload_n 0, 1) := by decide +kernel
theorem d_En_choose_83 : decode prog_2_method_19_code 83 = .ok (.iload_n 1, 1) := by decide +kernel
theorem d_En_choose_84 : decode prog_2_method_19_code 84 = .ok (.invokevirtual 189, 3) := by decide +kernel
theorem d_En_choose_87 : decode prog_2_method_19_code 87 = .ok (.aload_n 2, 1) := by decide +kernel
theorem d_En_choose_88 : decode prog_2_method_19_code 88 = .ok (.getfield 137, 3) := by decide +kernel
theorem d_En_choose_91 : decode prog_2_method_19_code 91 = .ok (.iload 4, 2) := by decide +kernel
theorem d_En_choose_93 : decode prog_2_method_19_code 93 = .ok (.if_icmp .eq 56, 3) := by decide +kernel
theorem d_En_choose_96 : decode prog_2_method_19_code 96 = .ok (.iload 4, 2) := by decide +kernel
theorem d_En_choose_98 : decode prog_2_method_19_code 98 = .ok (.bipush (-2), 2) := by decide +kernel
theorem d_En_choose_100 : decode prog_2_method_19_code 100 = .ok (.if_icmp .eq 25, 3) := by decide +kernel
theorem d_En_choose_103 : decode prog_2_method_19_code 103 = .ok (.aload_n 0, 1) := by decide +kernel
theorem d_En_choose_104 : decode prog_2_method_19_code 104 = .ok (.iconst 2, 1) := by decide +kernel
theorem d_En_choose_105 : decode prog_2_method_19_code 105 = .ok (.iload_n 1, 1) := by decide +kernel
theorem d_En_choose_106 : decode prog_2_method_19_code 106 = .ok (.iload 4, 2) := by decide +kernel
theorem d_En_choose_108 : decode prog_2_method_19_code 108 = .ok (.iload_n 1, 1) := by decide +kernel
theorem d_En_choose_109 : decode prog_2_method_19_code 109 = .ok (.aload_n 2, 1) := by decide +kernel
theorem d_En_choose_110 : decode prog_2_method_19_code 110 = .ok (.getfield 81, 3) := by decide +kernel
theorem d_En_choose_113 : decode prog_2_method_19_code 113 = .ok (.iconst 0, 1) := by decide +kernel
theorem d_En_choose_114 : decode prog_2_method_19_code 114 = .ok (.invokevirtual 159, 3) := by decide +kernel
theorem d_En_choose_117 : decode prog_2_method_19_code 117 = .ok (.aload_n 0, 1) := by decide +kernel
theorem d_En_choose_118 : decode prog_2_method_19_code 118 = .ok (.iconst 2, 1) := by decide +kernel
theorem d_En_choose_119 : decode prog_2_method_19_code 119 = .ok (.iload_n 1, 1) := by decide +kernel
theorem d_En_choose_120 : decode prog_2_method_19_code 120 = .ok (.iload 4, 2) := by decide +kernel
theorem d_En_choose_122 : decode prog_2_method_19_code 122 = .ok (.invokevirtual 223, 3) := by decide +kernel
theorem d_En_choose_125 : decode prog_2_method_19_code 125 = .ok (.aload_n 2, 1) := by decide +kernel
theorem d_En_choose_126 : decode prog_2_method_19_code 126 = .ok (.getfield 137, 3) := by decide +kernel
theorem d_En_choose_129 : decode prog_2_method_19_code 129 = .ok (.bipush (-2), 2) := by decide +kernel
theorem d_En_choose_131 : decode prog_2_method_19_code 131 = .ok (.if_icmp .eq 18, 3) := by decide +kernel
theorem d_En_choose_134 : decode prog_2_method_19_code 134 = .ok (.aload_n 0, 1) := by decide +kernel
theorem d_En_choose_135 : decode prog_2_method_19_code 135 = .ok (.iload_n 1, 1) := by decide +kernel
theorem d_En_choose_136 : decode prog_2_method_19_code 136 = .ok (.invokevirtual 144, 3) := by decide +kernel
theorem d_En_choose_139 : decode prog_2_method_19_code 139 = .ok (.aload_n 0, 1) := by decide +kernel
theorem d_En_choose_140 : decode prog_2_method_19_code 140 = .ok (.iconst 1, 1) := by decide +kernel
theorem d_En_choose_141 : decode prog_2_method_19_code 141 = .ok (.iload_n 1, 1) := by decide +kernel
theorem d_En_choose_142 : decode prog_2_method_19_code 142 = .ok (.aload_n 2, 1) := by decide +kernel
theorem d_En_choose_143 : decode prog_2_method_19_code 143 = .ok (.getfield 137, 3) := by decide +kernel
theorem d_En_choose_146 : decode prog_2_method_19_code 146 = .ok (.invokevirtual 223, 3) := by decide +kernel
theorem d_En_choose_149 : decode prog_2_method_19_code 149 = .ok (.return_, 1) := by decide +kernel
def wp_En_choose_b149 (n : Nat)  (Q : sx_M → Prop)  (σ : sx_M) : Prop := Q σ
def wp_En_choose_b125 (n : Nat)  (Q : sx_M → Prop) (v1 : Int32) (v2n : Nat) (v2p : Nat) (σ : sx_M) : Prop := if σ 27 v2n v2p 3 = (-2) then (wp_En_choose_b149 n Q σ) else (wp_En_report n v1 σ (fun σ2 => wp_En_tellRoutes n (1 : Int32) v1 (σ2 27 v2n v2p 3) σ2 (fun σ3 => wp_En_choose_b149 n Q σ3)))
def wp_En_choose_b87 (n : Nat)  (Q : sx_M → Prop) (v1 : Int32) (v2n : Nat) (v2p : Nat) (v4 : Int32) (σ : sx_M) : Prop := if σ 27 v2n v2p 3 = v4 then (wp_En_choose_b149 n Q σ) else (if v4 = (-2) then (wp_En_choose_b125 n Q v1 v2n v2p σ) else (wp_En_put n (2 : Int32) v1 v4 v1 (σ 27 v2n v2p 6) (0 : Int32) σ (fun σ6 => wp_En_tellRoutes n (2 : Int32) v1 v4 σ6 (fun σ7 => wp_En_choose_b125 n Q v1 v2n v2p σ7))))
def wp_En_choose_b71 (n : Nat)  (Q : sx_M → Prop) (v1 : Int32) (v2n : Nat) (v2p : Nat) (v3 : Int32) (v4 : Int32) (w0n : Nat) (w1 : Int32) (w2 : Int32) (σ : sx_M) : Prop := wp_En_settle w0n w1 w2 σ (fun σ8 => if σ8 27 v2n v2p 2 = v3 then (wp_En_choose_b87 n Q v1 v2n v2p v4 σ8) else (wp_En_beginAnew n v1 σ8 (fun σ10 => wp_En_choose_b87 n Q v1 v2n v2p v4 σ10)))
def wp_En_choose_b28 (n : Nat)  (Q : sx_M → Prop)  (σ : sx_M) : Prop := Q σ
def wp_En_choose (n : Nat) (x1 : Int32) (σ : sx_M) (Q : sx_M → Prop) : Prop := vp_in x1 7 ∧ (if x1 = 0 then (wp_En_choose_b28 n Q σ) else (if σ 27 n x1.toNatClampNeg 0 = 0 then (wp_En_choose_b28 n Q σ) else (if σ 27 n x1.toNatClampNeg 5 ≤ 0 then (wp_Ne_bestOffer n x1 (-2 : Int32) σ (fun r15 σ15 => wp_En_isKept n x1 r15 σ15 (fun r16 σ16 => if r16 = 0 then (wp_En_choose_b71 n Q x1 n x1.toNatClampNeg (σ 27 n x1.toNatClampNeg 2) (σ 27 n x1.toNatClampNeg 3) n x1 r15 σ16) else (wp_En_choose_b71 n Q x1 n x1.toNatClampNeg (σ 27 n x1.toNatClampNeg 2) (σ 27 n x1.toNatClampNeg 3) n x1 (σ 27 n x1.toNatClampNeg 3) σ16)))) else (wp_En_choose_b28 n Q σ))))
abbrev rm_En_choose : Room := { frames := 3, cells := 0, slots := 0, locals := 71 }
set_option maxRecDepth 100000 in
set_option maxHeartbeats 4000000 in
theorem g_En_choose_b149 {l : Launch} {K : sx_K} {X : sx_T} {n : Nat}  {Q : sx_M → Prop} (hX : sx_C X K prog_2_method_19_code 6 "SensorTree$Engine" none rm_En_choose l) (hK : kx_C K) (hE : sx_E X K (sx_Qv K (fun σ _ => Q σ))) (hn : n < 2)  (σ : sx_M) (τ : sx_L)  (h : wp_En_choose_b149 n Q  σ) : sx_G X K 6 149 [] [] (sx_H K σ τ) := by
  unfold wp_En_choose_b149 at h
  exact sx_vret hX hE h d_En_choose_149
set_option maxRecDepth 100000 in
set_option maxHeartbeats 4000000 in
theorem g_En_choose_b125 {l : Launch} {K : sx_K} {X : sx_T} {n : Nat}  {Q : sx_M → Prop} (hX : sx_C X K prog_2_method_19_code 6 "SensorTree$Engine" none rm_En_choose l) (hK : kx_C K) (hE : sx_E X K (sx_Qv K (fun σ _ => Q σ))) (hn : n < 2) (v1 : Int32) (v2n : Nat) (v2p : Nat) (σ : sx_M) (τ : sx_L) (hv2n : v2n < 25) (hv2p : v2p < 7) (h : wp_En_choose_b125 n Q  v1 v2n v2p σ) : sx_G X K 6 125 [(0, .ref (K.2.2.1 31 n 0)), (1, .int v1), (2, .ref (K.2.2.1 27 v2n v2p))] [] (sx_H K σ τ) := by
  unfold wp_En_choose_b125 at h
  refine sx_aload_n (pc2 := 126) hX 2 d_En_choose_125 rfl rfl rfl ?_
  refine fg_En_137 (pc2 := 129) hX (hK 27 v2n v2p hv2n hv2p) d_En_choose_126 rfl ?_
  refine sx_bipush (v := (-2)) (pc2 := 131) hX d_En_choose_129 (by decide) rfl ?_
  refine sx_icmp_eq (tgt := 149) (pc2 := 134) hX d_En_choose_131 (by decide) rfl (fun hc1 => ?_) (fun hc1 => ?_)
  · replace h := sx_t h hc1
    refine sx_sub [] [] rfl ?_
    exact g_En_choose_b149 hX hK hE hn  _ _ h
  · replace h := sx_f h hc1
    refine sx_aload_n (pc2 := 135) hX 0 d_En_choose_134 rfl rfl rfl ?_
    refine sx_iload_n (pc2 := 136) hX 1 d_En_choose_135 rfl rfl rfl ?_
    refine cl_En_144 (pc2 := 139) hX hK h hn ⟨Nat.le_of_ble_eq_true rfl, Nat.le_of_ble_eq_true rfl⟩ (Nat.le_of_ble_eq_true rfl) d_En_choose_136 rfl (fun σ2 τ2 h => ?_)
    refine sx_aload_n (pc2 := 140) hX 0 d_En_choose_139 rfl rfl rfl ?_
    refine sx_iconst (v := 1) (pc2 := 141) hX d_En_choose_140 (by decide) rfl ?_
    refine sx_iload_n (pc2 := 142) hX 1 d_En_choose_141 rfl rfl rfl ?_
    refine sx_aload_n (pc2 := 143) hX 2 d_En_choose_142 rfl rfl rfl ?_
    refine fg_En_137 (pc2 := 146) hX (hK 27 v2n v2p hv2n hv2p) d_En_choose_143 rfl ?_
    refine cl_En_223 (pc2 := 149) hX hK h hn ⟨Nat.le_of_ble_eq_true rfl, Nat.le_of_ble_eq_true rfl⟩ (Nat.le_of_ble_eq_true rfl) d_En_choose_146 rfl (fun σ3 τ3 h => ?_)
    refine sx_sub [] [] rfl ?_
    exact g_En_choose_b149 hX hK hE hn  _ _ h
set_option maxRecDepth 100000 in
set_option maxHeartbeats 4000000 in
theorem g_En_choose_b87 {l : Launch} {K : sx_K} {X : sx_T} {n : Nat}  {Q : sx_M → Prop} (hX : sx_C X K prog_2_method_19_code 6 "SensorTree$Engine" none rm_En_choose l) (hK : kx_C K) (hE : sx_E X K (sx_Qv K (fun σ _ => Q σ))) (hn : n < 2) (v1 : Int32) (v2n : Nat) (v2p : Nat) (v4 : Int32) (σ : sx_M) (τ : sx_L) (hv2n : v2n < 25) (hv2p : v2p < 7) (h : wp_En_choose_b87 n Q  v1 v2n v2p v4 σ) : sx_G X K 6 87 [(0, .ref (K.2.2.1 31 n 0)), (1, .int v1), (2, .ref (K.2.2.1 27 v2n v2p)), (4, .int v4)] [] (sx_H K σ τ) := by
  unfold wp_En_choose_b87 at h
  refine sx_aload_n (pc2 := 88) hX 2 d_En_choose_87 rfl rfl rfl ?_
  refine fg_En_137 (pc2 := 91) hX (hK 27 v2n v2p hv2n hv2p) d_En_choose_88 rfl ?_
  refine sx_iload (pc2 := 93) hX 3 d_En_choose_91 rfl rfl ?_
  refine sx_icmp_eq (tgt := 149) (pc2 := 96) hX d_En_choose_93 (by decide) rfl (fun hc4 => ?_) (fun hc4 => ?_)
  · replace h := sx_t h hc4
    refine sx_sub [] [] rfl ?_
    exact g_En_choose_b149 hX hK hE hn  _ _ h
  · replace h := sx_f h hc4
    refine sx_iload (pc2 := 98) hX 3 d_En_choose_96 rfl rfl ?_
    refine sx_bipush (v := (-2)) (pc2 := 100) hX d_En_choose_98 (by decide) rfl ?_
    refine sx_icmp_eq (tgt := 125) (pc2 := 103) hX d_En_choose_100 (by decide) rfl (fun hc5 => ?_) (fun hc5 => ?_)
    · replace h := sx_t h hc5
      refine sx_sub [(0, .ref (K.2.2.1 31 n 0)), (1, .int v1), (2, .ref (K.2.2.1 27 v2n v2p))] [0, 1, 2] rfl ?_
      exact g_En_choose_b125 hX hK hE hn  v1 v2n v2p _ _ hv2n hv2p h
    · replace h := sx_f h hc5
      refine sx_aload_n (pc2 := 104) hX 0 d_En_choose_103 rfl rfl rfl ?_
      refine sx_iconst (v := 2) (pc2 := 105) hX d_En_choose_104 (by decide) rfl ?_
      refine sx_iload_n (pc2 := 106) hX 1 d_En_choose_105 rfl rfl rfl ?_
      refine sx_iload (pc2 := 108) hX 3 d_En_choose_106 rfl rfl ?_
      refine sx_iload_n (pc2 := 109) hX 1 d_En_choose_108 rfl rfl rfl ?_
      refine sx_aload_n (pc2 := 110) hX 2 d_En_choose_109 rfl rfl rfl ?_
      refine fg_En_81 (pc2 := 113) hX (hK 27 v2n v2p hv2n hv2p) d_En_choose_110 rfl ?_
      refine sx_iconst (v := 0) (pc2 := 114) hX d_En_choose_113 (by decide) rfl ?_
      refine cl_En_159 (pc2 := 117) hX hK h hn ⟨Nat.le_of_ble_eq_true rfl, Nat.le_of_ble_eq_true rfl⟩ (Nat.le_of_ble_eq_true rfl) d_En_choose_114 rfl (fun σ6 τ6 h => ?_)
      refine sx_aload_n (pc2 := 118) hX 0 d_En_choose_117 rfl rfl rfl ?_
      refine sx_iconst (v := 2) (pc2 := 119) hX d_En_choose_118 (by decide) rfl ?_
      refine sx_iload_n (pc2 := 120) hX 1 d_En_choose_119 rfl rfl rfl ?_
      refine sx_iload (pc2 := 122) hX 3 d_En_choose_120 rfl rfl ?_
      refine cl_En_223 (pc2 := 125) hX hK h hn ⟨Nat.le_of_ble_eq_true rfl, Nat.le_of_ble_eq_true rfl⟩ (Nat.le_of_ble_eq_true rfl) d_En_choose_122 rfl (fun σ7 τ7 h => ?_)
      refine sx_sub [(0, .ref (K.2.2.1 31 n 0)), (1, .int v1), (2, .ref (K.2.2.1 27 v2n v2p))] [0, 1, 2] rfl ?_
      exact g_En_choose_b125 hX hK hE hn  v1 v2n v2p _ _ hv2n hv2p h
set_option maxRecDepth 100000 in
set_option maxHeartbeats 4000000 in
theorem g_En_choose_b71 {l : Launch} {K : sx_K} {X : sx_T} {n : Nat}  {Q : sx_M → Prop} (hX : sx_C X K prog_2_method_19_code 6 "SensorTree$Engine" none rm_En_choose l) (hK : kx_C K) (hE : sx_E X K (sx_Qv K (fun σ _ => Q σ))) (hn : n < 2) (v1 : Int32) (v2n : Nat) (v2p : Nat) (v3 : Int32) (v4 : Int32) (w0n : Nat) (w1 : Int32) (w2 : Int32) (σ : sx_M) (τ : sx_L) (hv2n : v2n < 25) (hv2p : v2p < 7) (hw0n : w0n < 2) (h : wp_En_choose_b71 n Q  v1 v2n v2p v3 v4 w0n w1 w2 σ) : sx_G X K 6 71 [(0, .ref (K.2.2.1 31 n 0)), (1, .int v1), (2, .ref (K.2.2.1 27 v2n v2p)), (3, .int v3), (4, .int v4)] [.int w2, .int w1, .ref (K.2.2.1 31 w0n 0)] (sx_H K σ τ) := by
  unfold wp_En_choose_b71 at h
  refine cl_En_220 (pc2 := 74) hX hK h hw0n ⟨Nat.le_of_ble_eq_true rfl, Nat.le_of_ble_eq_true rfl⟩ (Nat.le_of_ble_eq_true rfl) d_En_choose_71 rfl (fun σ8 τ8 h => ?_)
  refine sx_aload_n (pc2 := 75) hX 2 d_En_choose_74 rfl rfl rfl ?_
  refine fg_En_156 (pc2 := 78) hX (hK 27 v2n v2p hv2n hv2p) d_En_choose_75 rfl ?_
  refine sx_iload_n (pc2 := 79) hX 3 d_En_choose_78 rfl rfl rfl ?_
  refine sx_icmp_eq (tgt := 87) (pc2 := 82) hX d_En_choose_79 (by decide) rfl (fun hc9 => ?_) (fun hc9 => ?_)
  · replace h := sx_t h hc9
    refine sx_sub [(0, .ref (K.2.2.1 31 n 0)), (1, .int v1), (2, .ref (K.2.2.1 27 v2n v2p)), (4, .int v4)] [0, 1, 2, 4] rfl ?_
    exact g_En_choose_b87 hX hK hE hn  v1 v2n v2p v4 _ _ hv2n hv2p h
  · replace h := sx_f h hc9
    refine sx_aload_n (pc2 := 83) hX 0 d_En_choose_82 rfl rfl rfl ?_
    refine sx_iload_n (pc2 := 84) hX 1 d_En_choose_83 rfl rfl rfl ?_
    refine cl_En_189 (pc2 := 87) hX hK h hn ⟨Nat.le_of_ble_eq_true rfl, Nat.le_of_ble_eq_true rfl⟩ (Nat.le_of_ble_eq_true rfl) d_En_choose_84 rfl (fun σ10 τ10 h => ?_)
    refine sx_sub [(0, .ref (K.2.2.1 31 n 0)), (1, .int v1), (2, .ref (K.2.2.1 27 v2n v2p)), (4, .int v4)] [0, 1, 2, 4] rfl ?_
    exact g_En_choose_b87 hX hK hE hn  v1 v2n v2p v4 _ _ hv2n hv2p h
set_option maxRecDepth 100000 in
set_option maxHeartbeats 4000000 in
theorem g_En_choose_b28 {l : Launch} {K : sx_K} {X : sx_T} {n : Nat}  {Q : sx_M → Prop} (hX : sx_C X K prog_2_method_19_code 6 "SensorTree$Engine" none rm_En_choose l) (hK : kx_C K) (hE : sx_E X K (sx_Qv K (fun σ _ => Q σ))) (hn : n < 2)  (σ : sx_M) (τ : sx_L)  (h : wp_En_choose_b28 n Q  σ) : sx_G X K 6 28 [] [] (sx_H K σ τ) := by
  unfold wp_En_choose_b28 at h
  exact sx_vret hX hE h d_En_choose_28
set_option maxRecDepth 100000 in
set_option maxHeartbeats 4000000 in
theorem c_En_choose {l : Launch} {K : sx_K} (hK : kx_C K) (n : Nat) (x1 : Int32) (σ : sx_M) (τ : sx_L) (Q : sx_M → Prop) (hn : n < 2) (h : wp_En_choose n x1 σ Q) : Met l y_En_choose (sx_wd y_En_choose prog_2_method_19_code 6 none) rm_En_choose (sx_Pc K [.ref (K.2.2.1 31 n 0), .int x1] σ τ) (sx_Qv K (fun σ _ => Q σ)) 0 0 (sx_A K) := by
  refine sx_met (by decide) (Nat.le_of_ble_eq_true rfl) (fun X hX hE => ?_)
  replace hX : sx_C X K prog_2_method_19_code 6 "SensorTree$Engine" none rm_En_choose l := hX
  show sx_G X K 6 0 [(0, .ref (K.2.2.1 31 n 0)), (1, .int x1)] [] (sx_H K σ τ)
  unfold wp_En_choose at h
  refine sx_aload_n (pc2 := 1) hX 0 d_En_choose_0 rfl rfl rfl ?_
  refine fg_En_22 (pc2 := 4) hX (hK 31 n 0 hn (by decide)) d_En_choose_1 rfl ?_
  refine fg_En_78 (pc2 := 7) hX (hK 16 n 0 (sx_w2 hn) (by decide)) d_En_choose_4 rfl ?_
  refine sx_iload_n (pc2 := 8) hX 1 d_En_choose_7 rfl rfl rfl ?_
  obtain ⟨hc11, h⟩ := h
  refine sx_aald (a := K.2.2.1 27 n x1.toNatClampNeg) (pc2 := 9) hX (hK 17 n 0 (sx_w2 hn) (by decide)) 4 rfl rfl rfl hc11 d_En_choose_8 rfl ?_
  refine sx_astore_n (pc2 := 10) hX _ [(0, .ref (K.2.2.1 31 n 0)), (1, .int x1), (2, .ref (K.2.2.1 27 n x1.toNatClampNeg))] [1, 2, 0] d_En_choose_9 rfl (by decide) rfl rfl rfl ?_
  refine sx_iload_n (pc2 := 11) hX 1 d_En_choose_10 rfl rfl rfl ?_
  refine sx_if_eq (tgt := 28) (pc2 := 14) hX d_En_choose_11 (by decide) rfl (fun hc12 => ?_) (fun hc12 => ?_)
  · replace h := sx_t h hc12
    refine sx_sub [] [] rfl ?_
    exact g_En_choose_b28 hX hK hE hn  _ _ h
  · replace h := sx_f h hc12
    refine sx_aload_n (pc2 := 15) hX 2 d_En_choose_14 rfl rfl rfl ?_
    refine fg_En_130 (pc2 := 18) hX (hK 27 n x1.toNatClampNeg (sx_w2 hn) (sx_lt hc11)) d_En_choose_15 rfl ?_
    refine sx_if_eq (tgt := 28) (pc2 := 21) hX d_En_choose_18 (by decide) rfl (fun hc13 => ?_) (fun hc13 => ?_)
    · replace h := sx_t h hc13
      refine sx_sub [] [] rfl ?_
      exact g_En_choose_b28 hX hK hE hn  _ _ h
    · replace h := sx_f h hc13
      refine sx_aload_n (pc2 := 22) hX 2 d_En_choose_21 rfl rfl rfl ?_
      refine fg_En_147 (pc2 := 25) hX (hK 27 n x1.toNatClampNeg (sx_w2 hn) (sx_lt hc11)) d_En_choose_22 rfl ?_
      refine sx_if_le (tgt := 29) (pc2 := 28) hX d_En_choose_25 (by decide) rfl (fun hc14 => ?_) (fun hc14 => ?_)
      · replace h := sx_t h hc14
        refine sx_aload_n (pc2 := 30) hX 2 d_En_choose_29 rfl rfl rfl ?_
        refine fg_En_156 (pc2 := 33) hX (hK 27 n x1.toNatClampNeg (sx_w2 hn) (sx_lt hc11)) d_En_choose_30 rfl ?_
        refine sx_istore_n (pc2 := 34) hX _ [(0, .ref (K.2.2.1 31 n 0)), (1, .int x1), (2, .ref (K.2.2.1 27 n x1.toNatClampNeg)), (3, .int (σ 27 n x1.toNatClampNeg 2))] [1, 2, 3, 0] d_En_choose_33 rfl (by decide) rfl rfl rfl ?_
        refine sx_aload_n (pc2 := 35) hX 2 d_En_choose_34 rfl rfl rfl ?_
        refine fg_En_137 (pc2 := 38) hX (hK 27 n x1.toNatClampNeg (sx_w2 hn) (sx_lt hc11)) d_En_choose_35 rfl ?_
        refine sx_istore (pc2 := 40) hX _ [(0, .ref (K.2.2.1 31 n 0)), (1, .int x1), (2, .ref (K.2.2.1 27 n x1.toNatClampNeg)), (3, .int (σ 27 n x1.toNatClampNeg 2)), (4, .int (σ 27 n x1.toNatClampNeg 3))] [1, 2, 3, 4, 0] d_En_choose_38 (by decide) rfl rfl rfl ?_
        refine sx_aload_n (pc2 := 41) hX 0 d_En_choose_40 rfl rfl rfl ?_
        refine fg_En_22 (pc2 := 44) hX (hK 31 n 0 hn (by decide)) d_En_choose_41 rfl ?_
        refine sx_iload_n (pc2 := 45) hX 1 d_En_choose_44 rfl rfl rfl ?_
        refine sx_bipush (v := (-2)) (pc2 := 47) hX d_En_choose_45 (by decide) rfl ?_
        refine cl_En_214 (pc2 := 50) hX hK h (sx_w2 hn) ⟨Nat.le_of_ble_eq_true rfl, Nat.le_of_ble_eq_true rfl⟩ (Nat.le_of_ble_eq_true rfl) d_En_choose_47 rfl (fun r15 σ15 τ15 h => ?_)
        refine sx_istore (pc2 := 52) hX _ [(0, .ref (K.2.2.1 31 n 0)), (1, .int x1), (2, .ref (K.2.2.1 27 n x1.toNatClampNeg)), (3, .int (σ 27 n x1.toNatClampNeg 2)), (4, .int (σ 27 n x1.toNatClampNeg 3)), (5, .int r15)] [1, 2, 3, 4, 5, 0] d_En_choose_50 (by decide) rfl rfl rfl ?_
        refine sx_aload_n (pc2 := 53) hX 0 d_En_choose_52 rfl rfl rfl ?_
        refine sx_iload_n (pc2 := 54) hX 1 d_En_choose_53 rfl rfl rfl ?_
        refine sx_aload_n (pc2 := 55) hX 0 d_En_choose_54 rfl rfl rfl ?_
        refine sx_iload_n (pc2 := 56) hX 1 d_En_choose_55 rfl rfl rfl ?_
        refine sx_iload (pc2 := 58) hX 5 d_En_choose_56 rfl rfl ?_
        refine cl_En_217 (pc2 := 61) hX hK h hn ⟨Nat.le_of_ble_eq_true rfl, Nat.le_of_ble_eq_true rfl⟩ (Nat.le_of_ble_eq_true rfl) d_En_choose_58 rfl (fun r16 σ16 τ16 h => ?_)
        refine sx_if_eq (tgt := 69) (pc2 := 64) hX d_En_choose_61 (by decide) rfl (fun hc17 => ?_) (fun hc17 => ?_)
        · replace h := sx_t h hc17
          refine sx_iload (pc2 := 71) hX 5 d_En_choose_69 rfl rfl ?_
          refine sx_sub [(0, .ref (K.2.2.1 31 n 0)), (1, .int x1), (2, .ref (K.2.2.1 27 n x1.toNatClampNeg)), (3, .int (σ 27 n x1.toNatClampNeg 2)), (4, .int (σ 27 n x1.toNatClampNeg 3))] [0, 1, 2, 3, 4] rfl ?_
          exact g_En_choose_b71 hX hK hE hn  x1 n x1.toNatClampNeg (σ 27 n x1.toNatClampNeg 2) (σ 27 n x1.toNatClampNeg 3) n x1 r15 _ _ (sx_w2 hn) (sx_lt hc11) hn h
        · replace h := sx_f h hc17
          refine sx_iload (pc2 := 66) hX 4 d_En_choose_64 rfl rfl ?_
          refine sx_goto (tgt := 71) hX d_En_choose_66 (by decide) ?_
          refine sx_sub [(0, .ref (K.2.2.1 31 n 0)), (1, .int x1), (2, .ref (K.2.2.1 27 n x1.toNatClampNeg)), (3, .int (σ 27 n x1.toNatClampNeg 2)), (4, .int (σ 27 n x1.toNatClampNeg 3))] [0, 1, 2, 3, 4] rfl ?_
          exact g_En_choose_b71 hX hK hE hn  x1 n x1.toNatClampNeg (σ 27 n x1.toNatClampNeg 2) (σ 27 n x1.toNatClampNeg 3) n x1 (σ 27 n x1.toNatClampNeg 3) _ _ (sx_w2 hn) (sx_lt hc11) hn h
      · replace h := sx_f h hc14
        refine sx_sub [] [] rfl ?_
        exact g_En_choose_b28 hX hK hE hn  _ _ h
theorem cl_En_150 {X : sx_T} {K : sx_K} {cc : ByteArray} {nL : Nat} {ret : Option FieldType} {rm : Room} {l : Launch} {pc pc2 : Nat} {lv : List (Nat × Value)} {st : List Value} {σ : sx_M} {τ : sx_L} {n : Nat} {x1 : Int32} {Q : sx_M → Prop} (hX : sx_C X K cc nL "SensorTree$Engine" ret rm l) (hK : kx_C K) (h : wp_En_choose n x1 σ Q) (hn : n < 2) (hR : rm_En_choose.frames + 1 ≤ rm.frames ∧ 8 + (6 + 11) + rm_En_choose.locals ≤ rm.locals) (hst : (st.map fun v => v.category).sum ≤ 8) (hd : decode cc pc = .ok (.invokevirtual 150, 3)) (hpc : pc + 3 = pc2) (kk : ∀ (σ2 : sx_M) (τ2 : sx_L), Q σ2 → sx_G X K nL pc2 lv (st) (sx_H K σ2 τ2)) : sx_G X K nL pc lv (.int x1 :: .ref (K.2.2.1 31 n 0) :: st) (sx_H K σ τ) :=
  sx_callVv (Q := fun σ _ => Q σ) (As := [.int x1]) hX (c_En_choose hK n x1 σ τ Q hn h) (hK 31 n 0 hn (by decide)) rfl rfl lk_89 ls_18 hy_En_choose lk_87 lk_27 lk_88 ⟨rfl, rfl⟩ hR hst rfl hd hpc kk
def y_En_advertComes : MethodName := ⟨"SensorTree$Engine", "advertComes", "(I)V"⟩
theorem hy_En_advertComes : y_En_advertComes.cls ≠ "java/lang/invoke/MethodHandle" ∧ y_En_advertComes.cls ≠ "java/lang/invoke/VarHandle" ∧ (parseMethodDescriptor y_En_advertComes.desc).map (fun d => d.parameters.length) = some 1 := by decide +kernel
theorem d_En_advertComes_0 : decode prog_2_method_12_code 0 = .ok (.aload_n 0, 1) := by decide +kernel
theorem d_En_advertComes_1 : decode prog_2_method_12_code 1 = .ok (.getfield 12, 3) := by decide +kernel
theorem d_En_advertComes_4 : decode prog_2_method_12_code 4 = .ok (.getfield 163, 3) := by decide +kernel
theorem d_En_advertComes_7 : decode prog_2_method_12_code 7 = .ok (.iload_n 1, 1) := by decide +kernel
theorem d_En_advertComes_8 : decode prog_2_method_12_code 8 = .ok (.iaload, 1) := by decide +kernel
theorem d_En_advertComes_9 : decode prog_2_method_12_code 9 = .ok (.istore_n 2, 1) := by decide +kernel
theorem d_En_advertComes_10 : decode prog_2_method_12_code 10 = .ok (.iconst 0, 1) := by decide +kernel
theorem d_En_advertComes_11 : decode prog_2_method_12_code 11 = .ok (.istore_n 3, 1) := by decide +kernel
theorem d_En_advertComes_12 : decode prog_2_method_12_code 12 = .ok (.iload_n 3, 1) := by decide +kernel
theorem d_En_advertComes_13 : decode prog_2_method_12_code 13 = .ok (.aload_n 0, 1) := by decide +kernel
theorem d_En_advertComes_14 : decode prog_2_method_12_code 14 = .ok (.getfield 32, 3) := by decide +kernel
theorem d_En_advertComes_17 : decode prog_2_method_12_code 17 = .ok (.getfield 75, 3) := by decide +kernel
theorem d_En_advertComes_20 : decode prog_2_method_12_code 20 = .ok (.if_icmp .ge 75, 3) := by decide +kernel
theorem d_En_advertComes_23 : decode prog_2_method_12_code 23 = .ok (.aload_n 0, 1) := by decide +kernel
theorem d_En_advertComes_24 : decode prog_2_method_12_code 24 = .ok (.getfield 22, 3) := by decide +kernel
theorem d_En_advertComes_27 : decode prog_2_method_12_code 27 = .ok (.iload_n 2, 1) := by decide +kernel
theorem d_En_advertComes_28 : decode prog_2_method_12_code 28 = .ok (.iload_n 3, 1) := by decide +kernel
theorem d_En_advertComes_29 : decode prog_2_method_12_code 29 = .ok (.invokevirtual 178, 3) := by decide +kernel
theorem d_En_advertComes_32 : decode prog_2_method_12_code 32 = .ok (.ifCond .eq 57, 3) := by decide +kernel
theorem d_En_advertComes_35 : decode prog_2_method_12_code 35 = .ok (.aload_n 0, 1) := by decide +kernel
theorem d_En_advertComes_36 : decode prog_2_method_12_code 36 = .ok (.iload_n 2, 1) := by decide +kernel
theorem d_En_advertComes_37 : decode prog_2_method_12_code 37 = .ok (.iload_n 3, 1) := by decide +kernel
theorem d_En_advertComes_38 : decode prog_2_method_12_code 38 = .ok (.invokevirtual 182, 3) := by decide +kernel
theorem d_En_advertComes_41 : decode prog_2_method_12_code 41 = .ok (.ifCond .eq 19, 3) := by decide +kernel
theorem d_En_advertComes_44 : decode prog_2_method_12_code 44 = .ok (.aload_n 0, 1) := by decide +kernel
theorem d_En_advertComes_45 : decode prog_2_method_12_code 45 = .ok (.getfield 22, 3) := by decide +kernel
theorem d_En_advertComes_48 : decode prog_2_method_12_code 48 = .ok (.dup, 1) := by decide +kernel
theorem d_En_advertComes_49 : decode prog_2_method_12_code 49 = .ok (.getfield 48, 3) := by decide +kernel
theorem d_En_advertComes_52 : decode prog_2_method_12_code 52 = .ok (.iconst 1, 1) := by decide +kernel
theorem d_En_advertComes_53 : decode prog_2_method_12_code 53 = .ok (.iadd, 1) := by decide +kernel
theorem d_En_advertComes_54 : decode prog_2_method_12_code 54 = .ok (.putfield 48, 3) := by decide +kernel
theorem d_En_advertComes_57 : decode prog_2_method_12_code 57 = .ok (.goto 32, 3) := by decide +kernel
theorem d_En_advertComes_60 : decode prog_2_method_12_code 60 = .ok (.aload_n 0, 1) := by decide +kernel
theorem d_En_advertComes_61 : decode prog_2_method_12_code 61 = .ok (.iload_n 2, 1) := by decide +kernel
theorem d_En_advertComes_62 : decode prog_2_method_12_code 62 = .ok (.iload_n 3, 1) := by decide +kernel
theorem d_En_advertComes_63 : decode prog_2_method_12_code 63 = .ok (.aload_n 0, 1) := by decide +kernel
theorem d_En_advertComes_64 : decode prog_2_method_12_code 64 = .ok (.getfield 12, 3) := by decide +kernel
theorem d_En_advertComes_67 : decode prog_2_method_12_code 67 = .ok (.getfield 169, 3) := by decide +kernel
theorem d_En_advertComes_70 : decode prog_2_method_12_code 70 = .ok (.iload_n 1, 1) := by decide +kernel
theorem d_En_advertComes_71 : decode prog_2_method_12_code 71 = .ok (.iaload, 1) := by decide +kernel
theorem d_En_advertComes_72 : decode prog_2_method_12_code 72 = .ok (.aload_n 0, 1) := by decide +kernel
theorem d_En_advertComes_73 : decode prog_2_method_12_code 73 = .ok (.getfield 12, 3) := by decide +kernel
theorem d_En_advertComes_76 : decode prog_2_method_12_code 76 = .ok (.getfield 172, 3) := by decide +kernel
theorem d_En_advertComes_79 : decode prog_2_method_12_code 79 = .ok (.iload_n 1, 1) := by decide +kernel
theorem d_En_advertComes_80 : decode prog_2_method_12_code 80 = .ok (.iaload, 1) := by decide +kernel
theorem d_En_advertComes_81 : decode prog_2_method_12_code 81 = .ok (.invokevirtual 185, 3) := by decide +kernel
theorem d_En_advertComes_84 : decode prog_2_method_12_code 84 = .ok (.aload_n 0, 1) := by decide +kernel
theorem d_En_advertComes_85 : decode prog_2_method_12_code 85 = .ok (.iload_n 3, 1) := by decide +kernel
theorem d_En_advertComes_86 : decode prog_2_method_12_code 86 = .ok (.invokevirtual 150, 3) := by decide +kernel
theorem d_En_advertComes_89 : decode prog_2_method_12_code 89 = .ok (.iinc 3 1, 3) := by decide +kernel
theorem d_En_advertComes_92 : decode prog_2_method_12_code 92 = .ok (.goto (-80), 3) := by decide +kernel
theorem d_En_advertComes_95 : decode prog_2_method_12_code 95 = .ok (.return_, 1) := by decide +kernel
def wp_En_advertComes_b89 (n : Nat) (k12 : Int32 → Int32 → Int32 → sx_M → Prop) (Q : sx_M → Prop) (v1 : Int32) (v2 : Int32) (v3 : Int32) (σ : sx_M) : Prop := k12 v1 v2 (v3 + 1) σ
def wp_En_advertComes_b12 (n : Nat)  (Q : sx_M → Prop) : Nat → Int32 → Int32 → Int32 → sx_M → Prop
  | 0, _, _, _, _ => False
  | f + 1, v1, v2, v3, σ => if σ 8 0 0 0 ≤ v3 then (Q σ) else (wp_Ne_areNeighbours n v2 v3 σ (fun r2 σ2 => if r2 = 0 then (wp_En_advertComes_b89 n (wp_En_advertComes_b12 n Q f) Q v1 v2 v3 σ2) else (wp_En_isDrowned n v2 v3 σ2 (fun r4 σ4 => if r4 = 0 then (vp_in v1 200 ∧ (vp_in v1 200 ∧ (wp_En_hearAdvert n v2 v3 (σ4 24 (25 + n) 0 v1.toNatClampNeg) (σ4 25 (25 + n) 0 v1.toNatClampNeg) σ4 (fun σ8 => wp_En_choose n v3 σ8 (fun σ9 => wp_En_advertComes_b89 n (wp_En_advertComes_b12 n Q f) Q v1 v2 v3 σ9))))) else (∀ σ10 : sx_M, σ10 = sx_u σ4 16 n 0 6 ((σ4 16 n 0 6) + 1) → (wp_En_advertComes_b89 n (wp_En_advertComes_b12 n Q f) Q v1 v2 v3 σ10))))))
def wp_En_advertComes (n : Nat) (x1 : Int32) (σ : sx_M) (Q : sx_M → Prop) : Prop := vp_in x1 200 ∧ (∃ f12, wp_En_advertComes_b12 n Q f12 x1 (σ 22 (25 + n) 0 x1.toNatClampNeg) 0 σ)
abbrev rm_En_advertComes : Room := { frames := 4, cells := 0, slots := 0, locals := 96 }
set_option maxRecDepth 100000 in
set_option maxHeartbeats 4000000 in
theorem g_En_advertComes_b89 {l : Launch} {K : sx_K} {X : sx_T} {n : Nat} {k12 : Int32 → Int32 → Int32 → sx_M → Prop} {Q : sx_M → Prop} (hX : sx_C X K prog_2_method_12_code 4 "SensorTree$Engine" none rm_En_advertComes l) (hK : kx_C K) (hE : sx_E X K (sx_Qv K (fun σ _ => Q σ))) (hn : n < 2) (hk12 : ∀ (v1 : Int32) (v2 : Int32) (v3 : Int32) (σ : sx_M) (τ : sx_L) , k12 v1 v2 v3 σ → sx_G X K 4 12 [(0, .ref (K.2.2.1 31 n 0)), (1, .int v1), (2, .int v2), (3, .int v3)] [] (sx_H K σ τ)) (v1 : Int32) (v2 : Int32) (v3 : Int32) (σ : sx_M) (τ : sx_L)  (h : wp_En_advertComes_b89 n k12 Q  v1 v2 v3 σ) : sx_G X K 4 89 [(0, .ref (K.2.2.1 31 n 0)), (1, .int v1), (2, .int v2), (3, .int v3)] [] (sx_H K σ τ) := by
  unfold wp_En_advertComes_b89 at h
  refine sx_iinc (pc2 := 92) hX 3 _ [(0, .ref (K.2.2.1 31 n 0)), (1, .int v1), (2, .int v2), (3, .int (v3 + 1))] [1, 2, 3, 0] d_En_advertComes_89 rfl (v3 + 1) rfl (by decide) rfl rfl rfl ?_
  refine sx_goto (tgt := 12) hX d_En_advertComes_92 (by decide) ?_
  exact hk12 v1 v2 (v3 + 1) _ _ h
set_option maxRecDepth 100000 in
set_option maxHeartbeats 4000000 in
theorem g_En_advertComes_b12 {l : Launch} {K : sx_K} {X : sx_T} {n : Nat}  {Q : sx_M → Prop} (hX : sx_C X K prog_2_method_12_code 4 "SensorTree$Engine" none rm_En_advertComes l) (hK : kx_C K) (hE : sx_E X K (sx_Qv K (fun σ _ => Q σ))) (hn : n < 2) : ∀ (f : Nat) (v1 : Int32) (v2 : Int32) (v3 : Int32) (σ : sx_M) (τ : sx_L) , wp_En_advertComes_b12 n Q f v1 v2 v3 σ → sx_G X K 4 12 [(0, .ref (K.2.2.1 31 n 0)), (1, .int v1), (2, .int v2), (3, .int v3)] [] (sx_H K σ τ) := by
  intro f
  induction f with
  | zero => intro v1 v2 v3 σ τ h; exact (show False from h).elim
  | succ f ih =>
    intro v1 v2 v3 σ τ h
    rw [wp_En_advertComes_b12] at h
    refine sx_iload_n (pc2 := 13) hX 3 d_En_advertComes_12 rfl rfl rfl ?_
    refine sx_aload_n (pc2 := 14) hX 0 d_En_advertComes_13 rfl rfl rfl ?_
    refine fg_En_32 (pc2 := 17) hX (hK 31 n 0 hn (by decide)) d_En_advertComes_14 rfl ?_
    refine fg_En_75 (pc2 := 20) hX (hK 8 0 0 (by decide) (by decide)) d_En_advertComes_17 rfl ?_
    refine sx_icmp_ge (tgt := 95) (pc2 := 23) hX d_En_advertComes_20 (by decide) rfl (fun hc1 => ?_) (fun hc1 => ?_)
    · replace h := sx_t h hc1
      exact sx_vret hX hE h d_En_advertComes_95
    · replace h := sx_f h hc1
      refine sx_aload_n (pc2 := 24) hX 0 d_En_advertComes_23 rfl rfl rfl ?_
      refine fg_En_22 (pc2 := 27) hX (hK 31 n 0 hn (by decide)) d_En_advertComes_24 rfl ?_
      refine sx_iload_n (pc2 := 28) hX 2 d_En_advertComes_27 rfl rfl rfl ?_
      refine sx_iload_n (pc2 := 29) hX 3 d_En_advertComes_28 rfl rfl rfl ?_
      refine cl_En_178 (pc2 := 32) hX hK h (sx_w2 hn) ⟨Nat.le_of_ble_eq_true rfl, Nat.le_of_ble_eq_true rfl⟩ (Nat.le_of_ble_eq_true rfl) d_En_advertComes_29 rfl (fun r2 σ2 τ2 h => ?_)
      refine sx_if_eq (tgt := 89) (pc2 := 35) hX d_En_advertComes_32 (by decide) rfl (fun hc3 => ?_) (fun hc3 => ?_)
      · replace h := sx_t h hc3
        exact g_En_advertComes_b89 hX hK hE hn ih v1 v2 v3 _ _ h
      · replace h := sx_f h hc3
        refine sx_aload_n (pc2 := 36) hX 0 d_En_advertComes_35 rfl rfl rfl ?_
        refine sx_iload_n (pc2 := 37) hX 2 d_En_advertComes_36 rfl rfl rfl ?_
        refine sx_iload_n (pc2 := 38) hX 3 d_En_advertComes_37 rfl rfl rfl ?_
        refine cl_En_182 (pc2 := 41) hX hK h hn ⟨Nat.le_of_ble_eq_true rfl, Nat.le_of_ble_eq_true rfl⟩ (Nat.le_of_ble_eq_true rfl) d_En_advertComes_38 rfl (fun r4 σ4 τ4 h => ?_)
        refine sx_if_eq (tgt := 60) (pc2 := 44) hX d_En_advertComes_41 (by decide) rfl (fun hc5 => ?_) (fun hc5 => ?_)
        · replace h := sx_t h hc5
          refine sx_aload_n (pc2 := 61) hX 0 d_En_advertComes_60 rfl rfl rfl ?_
          refine sx_iload_n (pc2 := 62) hX 2 d_En_advertComes_61 rfl rfl rfl ?_
          refine sx_iload_n (pc2 := 63) hX 3 d_En_advertComes_62 rfl rfl rfl ?_
          refine sx_aload_n (pc2 := 64) hX 0 d_En_advertComes_63 rfl rfl rfl ?_
          refine fg_En_12 (pc2 := 67) hX (hK 31 n 0 hn (by decide)) d_En_advertComes_64 rfl ?_
          refine fg_En_169 (pc2 := 70) hX (hK 20 (25 + n) 0 (sx_w27 hn) (by decide)) d_En_advertComes_67 rfl ?_
          refine sx_iload_n (pc2 := 71) hX 1 d_En_advertComes_70 rfl rfl rfl ?_
          obtain ⟨hc6, h⟩ := h
          refine sx_iald (pc2 := 72) hX (hK 24 (25 + n) 0 (sx_w27 hn) (by decide)) rfl hc6 d_En_advertComes_71 rfl ?_
          refine sx_aload_n (pc2 := 73) hX 0 d_En_advertComes_72 rfl rfl rfl ?_
          refine fg_En_12 (pc2 := 76) hX (hK 31 n 0 hn (by decide)) d_En_advertComes_73 rfl ?_
          refine fg_En_172 (pc2 := 79) hX (hK 20 (25 + n) 0 (sx_w27 hn) (by decide)) d_En_advertComes_76 rfl ?_
          refine sx_iload_n (pc2 := 80) hX 1 d_En_advertComes_79 rfl rfl rfl ?_
          obtain ⟨hc7, h⟩ := h
          refine sx_iald (pc2 := 81) hX (hK 25 (25 + n) 0 (sx_w27 hn) (by decide)) rfl hc7 d_En_advertComes_80 rfl ?_
          refine cl_En_185 (pc2 := 84) hX hK h hn ⟨Nat.le_of_ble_eq_true rfl, Nat.le_of_ble_eq_true rfl⟩ (Nat.le_of_ble_eq_true rfl) d_En_advertComes_81 rfl (fun σ8 τ8 h => ?_)
          refine sx_aload_n (pc2 := 85) hX 0 d_En_advertComes_84 rfl rfl rfl ?_
          refine sx_iload_n (pc2 := 86) hX 3 d_En_advertComes_85 rfl rfl rfl ?_
          refine cl_En_150 (pc2 := 89) hX hK h hn ⟨Nat.le_of_ble_eq_true rfl, Nat.le_of_ble_eq_true rfl⟩ (Nat.le_of_ble_eq_true rfl) d_En_advertComes_86 rfl (fun σ9 τ9 h => ?_)
          exact g_En_advertComes_b89 hX hK hE hn ih v1 v2 v3 _ _ h
        · replace h := sx_f h hc5
          refine sx_aload_n (pc2 := 45) hX 0 d_En_advertComes_44 rfl rfl rfl ?_
          refine fg_En_22 (pc2 := 48) hX (hK 31 n 0 hn (by decide)) d_En_advertComes_45 rfl ?_
          refine sx_dup (pc2 := 49) hX d_En_advertComes_48 rfl rfl ?_
          refine fg_En_48 (pc2 := 52) hX (hK 16 n 0 (sx_w2 hn) (by decide)) d_En_advertComes_49 rfl ?_
          refine sx_iconst (v := 1) (pc2 := 53) hX d_En_advertComes_52 (by decide) rfl ?_
          refine sx_iadd (pc2 := 54) hX d_En_advertComes_53 rfl ?_
          refine fp_En_48 (pc2 := 57) hX (hK 16 n 0 (sx_w2 hn) (by decide)) d_En_advertComes_54 rfl ?_
          refine sx_nm (fun σ10 e10 => ?_)
          replace h := h σ10 e10
          refine sx_goto (tgt := 89) hX d_En_advertComes_57 (by decide) ?_
          exact g_En_advertComes_b89 hX hK hE hn ih v1 v2 v3 _ _ h
set_option maxRecDepth 100000 in
set_option maxHeartbeats 4000000 in
theorem c_En_advertComes {l : Launch} {K : sx_K} (hK : kx_C K) (n : Nat) (x1 : Int32) (σ : sx_M) (τ : sx_L) (Q : sx_M → Prop) (hn : n < 2) (h : wp_En_advertComes n x1 σ Q) : Met l y_En_advertComes (sx_wd y_En_advertComes prog_2_method_12_code 4 none) rm_En_advertComes (sx_Pc K [.ref (K.2.2.1 31 n 0), .int x1] σ τ) (sx_Qv K (fun σ _ => Q σ)) 0 0 (sx_A K) := by
  refine sx_met (by decide) (Nat.le_of_ble_eq_true rfl) (fun X hX hE => ?_)
  replace hX : sx_C X K prog_2_method_12_code 4 "SensorTree$Engine" none rm_En_advertComes l := hX
  show sx_G X K 4 0 [(0, .ref (K.2.2.1 31 n 0)), (1, .int x1)] [] (sx_H K σ τ)
  unfold wp_En_advertComes at h
  refine sx_aload_n (pc2 := 1) hX 0 d_En_advertComes_0 rfl rfl rfl ?_
  refine fg_En_12 (pc2 := 4) hX (hK 31 n 0 hn (by decide)) d_En_advertComes_1 rfl ?_
  refine fg_En_163 (pc2 := 7) hX (hK 20 (25 + n) 0 (sx_w27 hn) (by decide)) d_En_advertComes_4 rfl ?_
  refine sx_iload_n (pc2 := 8) hX 1 d_En_advertComes_7 rfl rfl rfl ?_
  obtain ⟨hc11, h⟩ := h
  refine sx_iald (pc2 := 9) hX (hK 22 (25 + n) 0 (sx_w27 hn) (by decide)) rfl hc11 d_En_advertComes_8 rfl ?_
  refine sx_istore_n (pc2 := 10) hX _ [(0, .ref (K.2.2.1 31 n 0)), (1, .int x1), (2, .int (σ 22 (25 + n) 0 x1.toNatClampNeg))] [1, 2, 0] d_En_advertComes_9 rfl (by decide) rfl rfl rfl ?_
  refine sx_iconst (v := 0) (pc2 := 11) hX d_En_advertComes_10 (by decide) rfl ?_
  refine sx_istore_n (pc2 := 12) hX _ [(0, .ref (K.2.2.1 31 n 0)), (1, .int x1), (2, .int (σ 22 (25 + n) 0 x1.toNatClampNeg)), (3, .int 0)] [1, 2, 3, 0] d_En_advertComes_11 rfl (by decide) rfl rfl rfl ?_
  obtain ⟨f12, h⟩ := h
  exact g_En_advertComes_b12 hX hK hE hn  f12 x1 (σ 22 (25 + n) 0 x1.toNatClampNeg) 0 _ _ h
theorem cl_En_124 {X : sx_T} {K : sx_K} {cc : ByteArray} {nL : Nat} {ret : Option FieldType} {rm : Room} {l : Launch} {pc pc2 : Nat} {lv : List (Nat × Value)} {st : List Value} {σ : sx_M} {τ : sx_L} {n : Nat} {x1 : Int32} {Q : sx_M → Prop} (hX : sx_C X K cc nL "SensorTree$Engine" ret rm l) (hK : kx_C K) (h : wp_En_advertComes n x1 σ Q) (hn : n < 2) (hR : rm_En_advertComes.frames + 1 ≤ rm.frames ∧ 8 + (4 + 11) + rm_En_advertComes.locals ≤ rm.locals) (hst : (st.map fun v => v.category).sum ≤ 8) (hd : decode cc pc = .ok (.invokevirtual 124, 3)) (hpc : pc + 3 = pc2) (kk : ∀ (σ2 : sx_M) (τ2 : sx_L), Q σ2 → sx_G X K nL pc2 lv (st) (sx_H K σ2 τ2)) : sx_G X K nL pc lv (.int x1 :: .ref (K.2.2.1 31 n 0) :: st) (sx_H K σ τ) :=
  sx_callVv (Q := fun σ _ => Q σ) (As := [.int x1]) hX (c_En_advertComes hK n x1 σ τ Q hn h) (hK 31 n 0 hn (by decide)) rfl rfl lk_107 ls_15 hy_En_advertComes lk_105 lk_27 lk_106 ⟨rfl, rfl⟩ hR hst rfl hd hpc kk
def y_En_takeReach : MethodName := ⟨"SensorTree$Engine", "takeReach", "(IIII)Z"⟩
theorem hy_En_takeReach : y_En_takeReach.cls ≠ "java/lang/invoke/MethodHandle" ∧ y_En_takeReach.cls ≠ "java/lang/invoke/VarHandle" ∧ (parseMethodDescriptor y_En_takeReach.desc).map (fun d => d.parameters.length) = some 4 := by decide +kernel
theorem d_En_takeReach_0 : decode prog_2_method_15_code 0 = .ok (.aload_n 0, 1) := by decide +kernel
theorem d_En_takeReach_1 : decode prog_2_method_15_code 1 = .ok (.getfield 22, 3) := by decide +kernel
theorem d_En_takeReach_4 : decode prog_2_method_15_code 4 = .ok (.getfield 78, 3) := by decide +kernel
theorem d_En_takeReach_7 : decode prog_2_method_15_code 7 = .ok (.iload_n 2, 1) := by decide +kernel
theorem d_En_takeReach_8 : decode prog_2_method_15_code 8 = .ok (.aaload, 1) := by decide +kernel
theorem d_En_takeReach_9 : decode prog_2_method_15_code 9 = .ok (.astore 5, 2) := by decide +kernel
theorem d_En_takeReach_11 : decode prog_2_method_15_code 11 = .ok (.aload 5, 2) := by decide +kernel
theorem d_En_takeReach_13 : decode prog_2_method_15_code 13 = .ok (.getfield 208, 3) := by decide +kernel
theorem d_En_takeReach_16 : decode prog_2_method_15_code 16 = .ok (.iload_n 3, 1) := by decide +kernel
theorem d_En_takeReach_17 : decode prog_2_method_15_code 17 = .ok (.iaload, 1) := by decide +kernel
theorem d_En_takeReach_18 : decode prog_2_method_15_code 18 = .ok (.bipush (-2), 2) := by decide +kernel
theorem d_En_takeReach_20 : decode prog_2_method_15_code 20 = .ok (.if_icmp .eq 17, 3) := by decide +kernel
theorem d_En_takeReach_23 : decode prog_2_method_15_code 23 = .ok (.aload 5, 2) := by decide +kernel
theorem d_En_takeReach_25 : decode prog_2_method_15_code 25 = .ok (.getfield 211, 3) := by decide +kernel
theorem d_En_takeReach_28 : decode prog_2_method_15_code 28 = .ok (.iload_n 3, 1) := by decide +kernel
theorem d_En_takeReach_29 : decode prog_2_method_15_code 29 = .ok (.iaload, 1) := by decide +kernel
theorem d_En_takeReach_30 : decode prog_2_method_15_code 30 = .ok (.iload 4, 2) := by decide +kernel
theorem d_En_takeReach_32 : decode prog_2_method_15_code 32 = .ok (.if_icmp .le 5, 3) := by decide +kernel
theorem d_En_takeReach_35 : decode prog_2_method_15_code 35 = .ok (.iconst 0, 1) := by decide +kernel
theorem d_En_takeReach_36 : decode prog_2_method_15_code 36 = .ok (.ireturn, 1) := by decide +kernel
theorem d_En_takeReach_37 : decode prog_2_method_15_code 37 = .ok (.aload 5, 2) := by decide +kernel
theorem d_En_takeReach_39 : decode prog_2_method_15_code 39 = .ok (.getfield 208, 3) := by decide +kernel
theorem d_En_takeReach_42 : decode prog_2_method_15_code 42 = .ok (.iload_n 3, 1) := by decide +kernel
theorem d_En_takeReach_43 : decode prog_2_method_15_code 43 = .ok (.iload_n 1, 1) := by decide +kernel
theorem d_En_takeReach_44 : decode prog_2_method_15_code 44 = .ok (.iastore, 1) := by decide +kernel
theorem d_En_takeReach_45 : decode prog_2_method_15_code 45 = .ok (.aload 5, 2) := by decide +kernel
theorem d_En_takeReach_47 : decode prog_2_method_15_code 47 = .ok (.getfield 211, 3) := by decide +kernel
theorem d_En_takeReach_50 : decode prog_2_method_15_code 50 = .ok (.iload_n 3, 1) := by decide +kernel
theorem d_En_takeReach_51 : decode prog_2_method_15_code 51 = .ok (.iload 4, 2) := by decide +kernel
theorem d_En_takeReach_53 : decode prog_2_method_15_code 53 = .ok (.iastore, 1) := by decide +kernel
theorem d_En_takeReach_54 : decode prog_2_method_15_code 54 = .ok (.iconst 1, 1) := by decide +kernel
theorem d_En_takeReach_55 : decode prog_2_method_15_code 55 = .ok (.ireturn, 1) := by decide +kernel
def wp_En_takeReach_b37 (n : Nat)  (Q : Int32 → sx_M → Prop) (v1 : Int32) (v3 : Int32) (v4 : Int32) (v5n : Nat) (v5p : Nat) (σ : sx_M) : Prop := vp_in v3 7 ∧ (∀ σ2 : sx_M, σ2 = sx_u σ 29 v5n v5p v3.toNatClampNeg v1 → (vp_in v3 7 ∧ (∀ σ4 : sx_M, σ4 = sx_u σ2 30 v5n v5p v3.toNatClampNeg v4 → (Q 1 σ4))))
def wp_En_takeReach (n : Nat) (x1 : Int32) (x2 : Int32) (x3 : Int32) (x4 : Int32) (σ : sx_M) (Q : Int32 → sx_M → Prop) : Prop := vp_in x2 7 ∧ (vp_in x3 7 ∧ (if σ 29 n x2.toNatClampNeg x3.toNatClampNeg = (-2) then (wp_En_takeReach_b37 n Q x1 x3 x4 n x2.toNatClampNeg σ) else (vp_in x3 7 ∧ (if σ 30 n x2.toNatClampNeg x3.toNatClampNeg ≤ x4 then (wp_En_takeReach_b37 n Q x1 x3 x4 n x2.toNatClampNeg σ) else (Q 0 σ)))))
abbrev rm_En_takeReach : Room := { frames := 0, cells := 0, slots := 0, locals := 0 }
set_option maxRecDepth 100000 in
set_option maxHeartbeats 4000000 in
theorem g_En_takeReach_b37 {l : Launch} {K : sx_K} {X : sx_T} {n : Nat}  {Q : Int32 → sx_M → Prop} (hX : sx_C X K prog_2_method_15_code 6 "SensorTree$Engine" (some .boolean) rm_En_takeReach l) (hK : kx_C K) (hE : sx_E X K (sx_Qi K (fun r σ _ => Q r σ))) (hn : n < 2) (v1 : Int32) (v3 : Int32) (v4 : Int32) (v5n : Nat) (v5p : Nat) (σ : sx_M) (τ : sx_L) (hv5n : v5n < 25) (hv5p : v5p < 7) (h : wp_En_takeReach_b37 n Q  v1 v3 v4 v5n v5p σ) : sx_G X K 6 37 [(1, .int v1), (3, .int v3), (4, .int v4), (5, .ref (K.2.2.1 27 v5n v5p))] [] (sx_H K σ τ) := by
  unfold wp_En_takeReach_b37 at h
  refine sx_aload (pc2 := 39) hX 3 d_En_takeReach_37 rfl rfl ?_
  refine fg_En_208 (pc2 := 42) hX (hK 27 v5n v5p hv5n hv5p) d_En_takeReach_39 rfl ?_
  refine sx_iload_n (pc2 := 43) hX 1 d_En_takeReach_42 rfl rfl rfl ?_
  refine sx_iload_n (pc2 := 44) hX 0 d_En_takeReach_43 rfl rfl rfl ?_
  obtain ⟨hc1, h⟩ := h
  refine sx_iast (pc2 := 45) hX (hK 29 v5n v5p hv5n hv5p) (fun _ => rfl) hc1 d_En_takeReach_44 rfl ?_
  refine sx_nm (fun σ2 e2 => ?_)
  replace h := h σ2 e2
  refine sx_aload (pc2 := 47) hX 3 d_En_takeReach_45 rfl rfl ?_
  refine fg_En_211 (pc2 := 50) hX (hK 27 v5n v5p hv5n hv5p) d_En_takeReach_47 rfl ?_
  refine sx_iload_n (pc2 := 51) hX 1 d_En_takeReach_50 rfl rfl rfl ?_
  refine sx_iload (pc2 := 53) hX 2 d_En_takeReach_51 rfl rfl ?_
  obtain ⟨hc3, h⟩ := h
  refine sx_iast (pc2 := 54) hX (hK 30 v5n v5p hv5n hv5p) (fun _ => rfl) hc3 d_En_takeReach_53 rfl ?_
  refine sx_nm (fun σ4 e4 => ?_)
  replace h := h σ4 e4
  refine sx_iconst (v := 1) (pc2 := 55) hX d_En_takeReach_54 (by decide) rfl ?_
  exact sx_zret hX hE (by decide) h d_En_takeReach_55
set_option maxRecDepth 100000 in
set_option maxHeartbeats 4000000 in
theorem c_En_takeReach {l : Launch} {K : sx_K} (hK : kx_C K) (n : Nat) (x1 : Int32) (x2 : Int32) (x3 : Int32) (x4 : Int32) (σ : sx_M) (τ : sx_L) (Q : Int32 → sx_M → Prop) (hn : n < 2) (h : wp_En_takeReach n x1 x2 x3 x4 σ Q) : Met l y_En_takeReach (sx_wd y_En_takeReach prog_2_method_15_code 6 (some .boolean)) rm_En_takeReach (sx_Pc K [.ref (K.2.2.1 31 n 0), .int x1, .int x2, .int x3, .int x4] σ τ) (sx_Qi K (fun r σ _ => Q r σ)) 0 0 (sx_A K) := by
  refine sx_met (by decide) (Nat.le_of_ble_eq_true rfl) (fun X hX hE => ?_)
  replace hX : sx_C X K prog_2_method_15_code 6 "SensorTree$Engine" (some .boolean) rm_En_takeReach l := hX
  show sx_G X K 6 0 [(0, .ref (K.2.2.1 31 n 0)), (1, .int x1), (2, .int x2), (3, .int x3), (4, .int x4)] [] (sx_H K σ τ)
  unfold wp_En_takeReach at h
  refine sx_aload_n (pc2 := 1) hX 0 d_En_takeReach_0 rfl rfl rfl ?_
  refine fg_En_22 (pc2 := 4) hX (hK 31 n 0 hn (by decide)) d_En_takeReach_1 rfl ?_
  refine fg_En_78 (pc2 := 7) hX (hK 16 n 0 (sx_w2 hn) (by decide)) d_En_takeReach_4 rfl ?_
  refine sx_iload_n (pc2 := 8) hX 2 d_En_takeReach_7 rfl rfl rfl ?_
  obtain ⟨hc5, h⟩ := h
  refine sx_aald (a := K.2.2.1 27 n x2.toNatClampNeg) (pc2 := 9) hX (hK 17 n 0 (sx_w2 hn) (by decide)) 4 rfl rfl rfl hc5 d_En_takeReach_8 rfl ?_
  refine sx_astore (pc2 := 11) hX _ [(0, .ref (K.2.2.1 31 n 0)), (1, .int x1), (2, .int x2), (3, .int x3), (4, .int x4), (5, .ref (K.2.2.1 27 n x2.toNatClampNeg))] [1, 2, 3, 4, 5, 0] d_En_takeReach_9 (by decide) rfl rfl rfl ?_
  refine sx_aload (pc2 := 13) hX 5 d_En_takeReach_11 rfl rfl ?_
  refine fg_En_208 (pc2 := 16) hX (hK 27 n x2.toNatClampNeg (sx_w2 hn) (sx_lt hc5)) d_En_takeReach_13 rfl ?_
  refine sx_iload_n (pc2 := 17) hX 3 d_En_takeReach_16 rfl rfl rfl ?_
  obtain ⟨hc6, h⟩ := h
  refine sx_iald (pc2 := 18) hX (hK 29 n x2.toNatClampNeg (sx_w2 hn) (sx_lt hc5)) rfl hc6 d_En_takeReach_17 rfl ?_
  refine sx_bipush (v := (-2)) (pc2 := 20) hX d_En_takeReach_18 (by decide) rfl ?_
  refine sx_icmp_eq (tgt := 37) (pc2 := 23) hX d_En_takeReach_20 (by decide) rfl (fun hc7 => ?_) (fun hc7 => ?_)
  · replace h := sx_t h hc7
    refine sx_sub [(1, .int x1), (3, .int x3), (4, .int x4), (5, .ref (K.2.2.1 27 n x2.toNatClampNeg))] [1, 3, 4, 5] rfl ?_
    exact g_En_takeReach_b37 hX hK hE hn  x1 x3 x4 n x2.toNatClampNeg _ _ (sx_w2 hn) (sx_lt hc5) h
  · replace h := sx_f h hc7
    refine sx_aload (pc2 := 25) hX 5 d_En_takeReach_23 rfl rfl ?_
    refine fg_En_211 (pc2 := 28) hX (hK 27 n x2.toNatClampNeg (sx_w2 hn) (sx_lt hc5)) d_En_takeReach_25 rfl ?_
    refine sx_iload_n (pc2 := 29) hX 3 d_En_takeReach_28 rfl rfl rfl ?_
    obtain ⟨hc8, h⟩ := h
    refine sx_iald (pc2 := 30) hX (hK 30 n x2.toNatClampNeg (sx_w2 hn) (sx_lt hc5)) rfl hc8 d_En_takeReach_29 rfl ?_
    refine sx_iload (pc2 := 32) hX 4 d_En_takeReach_30 rfl rfl ?_
    refine sx_icmp_le (tgt := 37) (pc2 := 35) hX d_En_takeReach_32 (by decide) rfl (fun hc9 => ?_) (fun hc9 => ?_)
    · replace h := sx_t h hc9
      refine sx_sub [(1, .int x1), (3, .int x3), (4, .int x4), (5, .ref (K.2.2.1 27 n x2.toNatClampNeg))] [1, 3, 4, 5] rfl ?_
      exact g_En_takeReach_b37 hX hK hE hn  x1 x3 x4 n x2.toNatClampNeg _ _ (sx_w2 hn) (sx_lt hc5) h
    · replace h := sx_f h hc9
      refine sx_iconst (v := 0) (pc2 := 36) hX d_En_takeReach_35 (by decide) rfl ?_
      exact sx_zret hX hE (by decide) h d_En_takeReach_36
theorem cl_En_201 {X : sx_T} {K : sx_K} {cc : ByteArray} {nL : Nat} {ret : Option FieldType} {rm : Room} {l : Launch} {pc pc2 : Nat} {lv : List (Nat × Value)} {st : List Value} {σ : sx_M} {τ : sx_L} {n : Nat} {x1 : Int32} {x2 : Int32} {x3 : Int32} {x4 : Int32} {Q : Int32 → sx_M → Prop} (hX : sx_C X K cc nL "SensorTree$Engine" ret rm l) (hK : kx_C K) (h : wp_En_takeReach n x1 x2 x3 x4 σ Q) (hn : n < 2) (hR : rm_En_takeReach.frames + 1 ≤ rm.frames ∧ 8 + (6 + 11) + rm_En_takeReach.locals ≤ rm.locals) (hst : (st.map fun v => v.category).sum ≤ 8) (hd : decode cc pc = .ok (.invokevirtual 201, 3)) (hpc : pc + 3 = pc2) (kk : ∀ (r : Int32) (σ2 : sx_M) (τ2 : sx_L), Q r σ2 → sx_G X K nL pc2 lv (.int r :: st) (sx_H K σ2 τ2)) : sx_G X K nL pc lv (.int x4 :: .int x3 :: .int x2 :: .int x1 :: .ref (K.2.2.1 31 n 0) :: st) (sx_H K σ τ) :=
  sx_callVi (Q := fun r σ _ => Q r σ) (As := [.int x1, .int x2, .int x3, .int x4]) hX (c_En_takeReach hK n x1 x2 x3 x4 σ τ Q hn h) (hK 31 n 0 hn (by decide)) rfl rfl lk_95 ls_25 hy_En_takeReach lk_93 lk_27 lk_94 ⟨rfl, rfl⟩ hR hst rfl hd hpc kk
def y_En_takeGone : MethodName := ⟨"SensorTree$Engine", "takeGone", "(IIII)Z"⟩
theorem hy_En_takeGone : y_En_takeGone.cls ≠ "java/lang/invoke/MethodHandle" ∧ y_En_takeGone.cls ≠ "java/lang/invoke/VarHandle" ∧ (parseMethodDescriptor y_En_takeGone.desc).map (fun d => d.parameters.length) = some 4 := by decide +kernel
theorem d_En_takeGone_0 : decode prog_2_method_16_code 0 = .ok (.aload_n 0, 1) := by decide +kernel
theorem d_En_takeGone_1 : decode prog_2_method_16_code 1 = .ok (.getfield 22, 3) := by decide +kernel
theorem d_En_takeGone_4 : decode prog_2_method_16_code 4 = .ok (.getfield 78, 3) := by decide +kernel
theorem d_En_takeGone_7 : decode prog_2_method_16_code 7 = .ok (.iload_n 2, 1) := by decide +kernel
theorem d_En_takeGone_8 : decode prog_2_method_16_code 8 = .ok (.aaload, 1) := by decide +kernel
theorem d_En_takeGone_9 : decode prog_2_method_16_code 9 = .ok (.astore 5, 2) := by decide +kernel
theorem d_En_takeGone_11 : decode prog_2_method_16_code 11 = .ok (.aload 5, 2) := by decide +kernel
theorem d_En_takeGone_13 : decode prog_2_method_16_code 13 = .ok (.getfield 208, 3) := by decide +kernel
theorem d_En_takeGone_16 : decode prog_2_method_16_code 16 = .ok (.iload_n 3, 1) := by decide +kernel
theorem d_En_takeGone_17 : decode prog_2_method_16_code 17 = .ok (.iaload, 1) := by decide +kernel
theorem d_En_takeGone_18 : decode prog_2_method_16_code 18 = .ok (.iload_n 1, 1) := by decide +kernel
theorem d_En_takeGone_19 : decode prog_2_method_16_code 19 = .ok (.if_icmp .ne 15, 3) := by decide +kernel
theorem d_En_takeGone_22 : decode prog_2_method_16_code 22 = .ok (.aload 5, 2) := by decide +kernel
theorem d_En_takeGone_24 : decode prog_2_method_16_code 24 = .ok (.getfield 211, 3) := by decide +kernel
theorem d_En_takeGone_27 : decode prog_2_method_16_code 27 = .ok (.iload_n 3, 1) := by decide +kernel
theorem d_En_takeGone_28 : decode prog_2_method_16_code 28 = .ok (.iaload, 1) := by decide +kernel
theorem d_En_takeGone_29 : decode prog_2_method_16_code 29 = .ok (.iload 4, 2) := by decide +kernel
theorem d_En_takeGone_31 : decode prog_2_method_16_code 31 = .ok (.if_icmp .le 5, 3) := by decide +kernel
theorem d_En_takeGone_34 : decode prog_2_method_16_code 34 = .ok (.iconst 0, 1) := by decide +kernel
theorem d_En_takeGone_35 : decode prog_2_method_16_code 35 = .ok (.ireturn, 1) := by decide +kernel
theorem d_En_takeGone_36 : decode prog_2_method_16_code 36 = .ok (.aload 5, 2) := by decide +kernel
theorem d_En_takeGone_38 : decode prog_2_method_16_code 38 = .ok (.getfield 208, 3) := by decide +kernel
theorem d_En_takeGone_41 : decode prog_2_method_16_code 41 = .ok (.iload_n 3, 1) := by decide +kernel
theorem d_En_takeGone_42 : decode prog_2_method_16_code 42 = .ok (.bipush (-2), 2) := by decide +kernel
theorem d_En_takeGone_44 : decode prog_2_method_16_code 44 = .ok (.iastore, 1) := by decide +kernel
theorem d_En_takeGone_45 : decode prog_2_method_16_code 45 = .ok (.iconst 1, 1) := by decide +kernel
theorem d_En_takeGone_46 : decode prog_2_method_16_code 46 = .ok (.ireturn, 1) := by decide +kernel
def wp_En_takeGone_b34 (n : Nat)  (Q : Int32 → sx_M → Prop)  (σ : sx_M) : Prop := Q 0 σ
def wp_En_takeGone (n : Nat) (x1 : Int32) (x2 : Int32) (x3 : Int32) (x4 : Int32) (σ : sx_M) (Q : Int32 → sx_M → Prop) : Prop := vp_in x2 7 ∧ (vp_in x3 7 ∧ (if σ 29 n x2.toNatClampNeg x3.toNatClampNeg = x1 then (vp_in x3 7 ∧ (if σ 30 n x2.toNatClampNeg x3.toNatClampNeg ≤ x4 then (vp_in x3 7 ∧ (∀ σ7 : sx_M, σ7 = sx_u σ 29 n x2.toNatClampNeg x3.toNatClampNeg (-2) → (Q 1 σ7))) else (wp_En_takeGone_b34 n Q σ))) else (wp_En_takeGone_b34 n Q σ)))
abbrev rm_En_takeGone : Room := { frames := 0, cells := 0, slots := 0, locals := 0 }
set_option maxRecDepth 100000 in
set_option maxHeartbeats 4000000 in
theorem g_En_takeGone_b34 {l : Launch} {K : sx_K} {X : sx_T} {n : Nat}  {Q : Int32 → sx_M → Prop} (hX : sx_C X K prog_2_method_16_code 6 "SensorTree$Engine" (some .boolean) rm_En_takeGone l) (hK : kx_C K) (hE : sx_E X K (sx_Qi K (fun r σ _ => Q r σ))) (hn : n < 2)  (σ : sx_M) (τ : sx_L)  (h : wp_En_takeGone_b34 n Q  σ) : sx_G X K 6 34 [] [] (sx_H K σ τ) := by
  unfold wp_En_takeGone_b34 at h
  refine sx_iconst (v := 0) (pc2 := 35) hX d_En_takeGone_34 (by decide) rfl ?_
  exact sx_zret hX hE (by decide) h d_En_takeGone_35
set_option maxRecDepth 100000 in
set_option maxHeartbeats 4000000 in
theorem c_En_takeGone {l : Launch} {K : sx_K} (hK : kx_C K) (n : Nat) (x1 : Int32) (x2 : Int32) (x3 : Int32) (x4 : Int32) (σ : sx_M) (τ : sx_L) (Q : Int32 → sx_M → Prop) (hn : n < 2) (h : wp_En_takeGone n x1 x2 x3 x4 σ Q) : Met l y_En_takeGone (sx_wd y_En_takeGone prog_2_method_16_code 6 (some .boolean)) rm_En_takeGone (sx_Pc K [.ref (K.2.2.1 31 n 0), .int x1, .int x2, .int x3, .int x4] σ τ) (sx_Qi K (fun r σ _ => Q r σ)) 0 0 (sx_A K) := by
  refine sx_met (by decide) (Nat.le_of_ble_eq_true rfl) (fun X hX hE => ?_)
  replace hX : sx_C X K prog_2_method_16_code 6 "SensorTree$Engine" (some .boolean) rm_En_takeGone l := hX
  show sx_G X K 6 0 [(0, .ref (K.2.2.1 31 n 0)), (1, .int x1), (2, .int x2), (3, .int x3), (4, .int x4)] [] (sx_H K σ τ)
  unfold wp_En_takeGone at h
  refine sx_aload_n (pc2 := 1) hX 0 d_En_takeGone_0 rfl rfl rfl ?_
  refine fg_En_22 (pc2 := 4) hX (hK 31 n 0 hn (by decide)) d_En_takeGone_1 rfl ?_
  refine fg_En_78 (pc2 := 7) hX (hK 16 n 0 (sx_w2 hn) (by decide)) d_En_takeGone_4 rfl ?_
  refine sx_iload_n (pc2 := 8) hX 2 d_En_takeGone_7 rfl rfl rfl ?_
  obtain ⟨hc1, h⟩ := h
  refine sx_aald (a := K.2.2.1 27 n x2.toNatClampNeg) (pc2 := 9) hX (hK 17 n 0 (sx_w2 hn) (by decide)) 4 rfl rfl rfl hc1 d_En_takeGone_8 rfl ?_
  refine sx_astore (pc2 := 11) hX _ [(0, .ref (K.2.2.1 31 n 0)), (1, .int x1), (2, .int x2), (3, .int x3), (4, .int x4), (5, .ref (K.2.2.1 27 n x2.toNatClampNeg))] [1, 2, 3, 4, 5, 0] d_En_takeGone_9 (by decide) rfl rfl rfl ?_
  refine sx_aload (pc2 := 13) hX 5 d_En_takeGone_11 rfl rfl ?_
  refine fg_En_208 (pc2 := 16) hX (hK 27 n x2.toNatClampNeg (sx_w2 hn) (sx_lt hc1)) d_En_takeGone_13 rfl ?_
  refine sx_iload_n (pc2 := 17) hX 3 d_En_takeGone_16 rfl rfl rfl ?_
  obtain ⟨hc2, h⟩ := h
  refine sx_iald (pc2 := 18) hX (hK 29 n x2.toNatClampNeg (sx_w2 hn) (sx_lt hc1)) rfl hc2 d_En_takeGone_17 rfl ?_
  refine sx_iload_n (pc2 := 19) hX 1 d_En_takeGone_18 rfl rfl rfl ?_
  refine sx_icmp_ne (tgt := 34) (pc2 := 22) hX d_En_takeGone_19 (by decide) rfl (fun hc3 => ?_) (fun hc3 => ?_)
  · replace h := sx_f h hc3
    refine sx_sub [] [] rfl ?_
    exact g_En_takeGone_b34 hX hK hE hn  _ _ h
  · replace h := sx_t h hc3
    refine sx_aload (pc2 := 24) hX 5 d_En_takeGone_22 rfl rfl ?_
    refine fg_En_211 (pc2 := 27) hX (hK 27 n x2.toNatClampNeg (sx_w2 hn) (sx_lt hc1)) d_En_takeGone_24 rfl ?_
    refine sx_iload_n (pc2 := 28) hX 3 d_En_takeGone_27 rfl rfl rfl ?_
    obtain ⟨hc4, h⟩ := h
    refine sx_iald (pc2 := 29) hX (hK 30 n x2.toNatClampNeg (sx_w2 hn) (sx_lt hc1)) rfl hc4 d_En_takeGone_28 rfl ?_
    refine sx_iload (pc2 := 31) hX 4 d_En_takeGone_29 rfl rfl ?_
    refine sx_icmp_le (tgt := 36) (pc2 := 34) hX d_En_takeGone_31 (by decide) rfl (fun hc5 => ?_) (fun hc5 => ?_)
    · replace h := sx_t h hc5
      refine sx_aload (pc2 := 38) hX 5 d_En_takeGone_36 rfl rfl ?_
      refine fg_En_208 (pc2 := 41) hX (hK 27 n x2.toNatClampNeg (sx_w2 hn) (sx_lt hc1)) d_En_takeGone_38 rfl ?_
      refine sx_iload_n (pc2 := 42) hX 3 d_En_takeGone_41 rfl rfl rfl ?_
      refine sx_bipush (v := (-2)) (pc2 := 44) hX d_En_takeGone_42 (by decide) rfl ?_
      obtain ⟨hc6, h⟩ := h
      refine sx_iast (pc2 := 45) hX (hK 29 n x2.toNatClampNeg (sx_w2 hn) (sx_lt hc1)) (fun _ => rfl) hc6 d_En_takeGone_44 rfl ?_
      refine sx_nm (fun σ7 e7 => ?_)
      replace h := h σ7 e7
      refine sx_iconst (v := 1) (pc2 := 46) hX d_En_takeGone_45 (by decide) rfl ?_
      exact sx_zret hX hE (by decide) h d_En_takeGone_46
    · replace h := sx_f h hc5
      refine sx_sub [] [] rfl ?_
      exact g_En_takeGone_b34 hX hK hE hn  _ _ h
theorem cl_En_205 {X : sx_T} {K : sx_K} {cc : ByteArray} {nL : Nat} {ret : Option FieldType} {rm : Room} {l : Launch} {pc pc2 : Nat} {lv : List (Nat × Value)} {st : List Value} {σ : sx_M} {τ : sx_L} {n : Nat} {x1 : Int32} {x2 : Int32} {x3 : Int32} {x4 : Int32} {Q : Int32 → sx_M → Prop} (hX : sx_C X K cc nL "SensorTree$Engine" ret rm l) (hK : kx_C K) (h : wp_En_takeGone n x1 x2 x3 x4 σ Q) (hn : n < 2) (hR : rm_En_takeGone.frames + 1 ≤ rm.frames ∧ 8 + (6 + 11) + rm_En_takeGone.locals ≤ rm.locals) (hst : (st.map fun v => v.category).sum ≤ 8) (hd : decode cc pc = .ok (.invokevirtual 205, 3)) (hpc : pc + 3 = pc2) (kk : ∀ (r : Int32) (σ2 : sx_M) (τ2 : sx_L), Q r σ2 → sx_G X K nL pc2 lv (.int r :: st) (sx_H K σ2 τ2)) : sx_G X K nL pc lv (.int x4 :: .int x3 :: .int x2 :: .int x1 :: .ref (K.2.2.1 31 n 0) :: st) (sx_H K σ τ) :=
  sx_callVi (Q := fun r σ _ => Q r σ) (As := [.int x1, .int x2, .int x3, .int x4]) hX (c_En_takeGone hK n x1 x2 x3 x4 σ τ Q hn h) (hK 31 n 0 hn (by decide)) rfl rfl lk_92 ls_26 hy_En_takeGone lk_90 lk_27 lk_91 ⟨rfl, rfl⟩ hR hst rfl hd hpc kk
def y_En_wordComes : MethodName := ⟨"SensorTree$Engine", "wordComes", "(I)V"⟩
theorem hy_En_wordComes : y_En_wordComes.cls ≠ "java/lang/invoke/MethodHandle" ∧ y_En_wordComes.cls ≠ "java/lang/invoke/VarHandle" ∧ (parseMethodDescriptor y_En_wordComes.desc).map (fun d => d.parameters.length) = some 1 := by decide +kernel
theorem d_En_wordComes_0 : decode prog_2_method_14_code 0 = .ok (.aload_n 0, 1) := by decide +kernel
theorem d_En_wordComes_1 : decode prog_2_method_14_code 1 = .ok (.getfield 12, 3) := by decide +kernel
theorem d_En_wordComes_4 : decode prog_2_method_14_code 4 = .ok (.getfield 163, 3) := by decide +kernel
theorem d_En_wordComes_7 : decode prog_2_method_14_code 7 = .ok (.iload_n 1, 1) := by decide +kernel
theorem d_En_wordComes_8 : decode prog_2_method_14_code 8 = .ok (.iaload, 1) := by decide +kernel
theorem d_En_wordComes_9 : decode prog_2_method_14_code 9 = .ok (.istore_n 2, 1) := by decide +kernel
theorem d_En_wordComes_10 : decode prog_2_method_14_code 10 = .ok (.aload_n 0, 1) := by decide +kernel
theorem d_En_wordComes_11 : decode prog_2_method_14_code 11 = .ok (.getfield 12, 3) := by decide +kernel
theorem d_En_wordComes_14 : decode prog_2_method_14_code 14 = .ok (.getfield 166, 3) := by decide +kernel
theorem d_En_wordComes_17 : decode prog_2_method_14_code 17 = .ok (.iload_n 1, 1) := by decide +kernel
theorem d_En_wordComes_18 : decode prog_2_method_14_code 18 = .ok (.iaload, 1) := by decide +kernel
theorem d_En_wordComes_19 : decode prog_2_method_14_code 19 = .ok (.istore_n 3, 1) := by decide +kernel
theorem d_En_wordComes_20 : decode prog_2_method_14_code 20 = .ok (.aload_n 0, 1) := by decide +kernel
theorem d_En_wordComes_21 : decode prog_2_method_14_code 21 = .ok (.getfield 12, 3) := by decide +kernel
theorem d_En_wordComes_24 : decode prog_2_method_14_code 24 = .ok (.getfield 169, 3) := by decide +kernel
theorem d_En_wordComes_27 : decode prog_2_method_14_code 27 = .ok (.iload_n 1, 1) := by decide +kernel
theorem d_En_wordComes_28 : decode prog_2_method_14_code 28 = .ok (.iaload, 1) := by decide +kernel
theorem d_En_wordComes_29 : decode prog_2_method_14_code 29 = .ok (.istore 4, 2) := by decide +kernel
theorem d_En_wordComes_31 : decode prog_2_method_14_code 31 = .ok (.aload_n 0, 1) := by decide +kernel
theorem d_En_wordComes_32 : decode prog_2_method_14_code 32 = .ok (.getfield 22, 3) := by decide +kernel
theorem d_En_wordComes_35 : decode prog_2_method_14_code 35 = .ok (.iload_n 2, 1) := by decide +kernel
theorem d_En_wordComes_36 : decode prog_2_method_14_code 36 = .ok (.iload_n 3, 1) := by decide +kernel
theorem d_En_wordComes_37 : decode prog_2_method_14_code 37 = .ok (.invokevirtual 178, 3) := by decide +kernel
theorem d_En_wordComes_40 : decode prog_2_method_14_code 40 = .ok (.ifCond .eq 12, 3) := by decide +kernel
theorem d_En_wordComes_43 : decode prog_2_method_14_code 43 = .ok (.aload_n 0, 1) := by decide +kernel
theorem d_En_wordComes_44 : decode prog_2_method_14_code 44 = .ok (.iload_n 2, 1) := by decide +kernel
theorem d_En_wordComes_45 : decode prog_2_method_14_code 45 = .ok (.iload_n 3, 1) := by decide +kernel
theorem d_En_wordComes_46 : decode prog_2_method_14_code 46 = .ok (.invokevirtual 182, 3) := by decide +kernel
theorem d_En_wordComes_49 : decode prog_2_method_14_code 49 = .ok (.ifCond .eq 17, 3) := by decide +kernel
theorem d_En_wordComes_52 : decode prog_2_method_14_code 52 = .ok (.aload_n 0, 1) := by decide +kernel
theorem d_En_wordComes_53 : decode prog_2_method_14_code 53 = .ok (.getfield 22, 3) := by decide +kernel
theorem d_En_wordComes_56 : decode prog_2_method_14_code 56 = .ok (.dup, 1) := by decide +kernel
theorem d_En_wordComes_57 : decode prog_2_method_14_code 57 = .ok (.getfield 48, 3) := by decide +kernel
theorem d_En_wordComes_60 : decode prog_2_method_14_code 60 = .ok (.iconst 1, 1) := by decide +kernel
theorem d_En_wordComes_61 : decode prog_2_method_14_code 61 = .ok (.iadd, 1) := by decide +kernel
theorem d_En_wordComes_62 : decode prog_2_method_14_code 62 = .ok (.putfield 48, 3) := by decide +kernel
theorem d_En_wordComes_65 : decode prog_2_method_14_code 65 = .ok (.return_, 1) := by decide +kernel
theorem d_En_wordComes_66 : decode prog_2_method_14_code 66 = .ok (.iload 4, 2) := by decide +kernel
theorem d_En_wordComes_68 : decode prog_2_method_14_code 68 = .ok (.iload_n 3, 1) := by decide +kernel
theorem d_En_wordComes_69 : decode prog_2_method_14_code 69 = .ok (.if_icmp .ne 4, 3) := by decide +kernel
theorem d_En_wordComes_72 : decode prog_2_method_14_code 72 = .ok (.return_, 1) := by decide +kernel
theorem d_En_wordComes_73 : decode prog_2_method_14_code 73 = .ok (.aload_n 0, 1) := by decide +kernel
theorem d_En_wordComes_74 : decode prog_2_method_14_code 74 = .ok (.getfield 12, 3) := by decide +kernel
theorem d_En_wordComes_77 : decode prog_2_method_14_code 77 = .ok (.getfield 121, 3) := by decide +kernel
theorem d_En_wordComes_80 : decode prog_2_method_14_code 80 = .ok (.iload_n 1, 1) := by decide +kernel
theorem d_En_wordComes_81 : decode prog_2_method_14_code 81 = .ok (.iaload, 1) := by decide +kernel
theorem d_En_wordComes_82 : decode prog_2_method_14_code 82 = .ok (.iconst 1, 1) := by decide +kernel
theorem d_En_wordComes_83 : decode prog_2_method_14_code 83 = .ok (.if_icmp .ne 23, 3) := by decide +kernel
theorem d_En_wordComes_86 : decode prog_2_method_14_code 86 = .ok (.aload_n 0, 1) := by decide +kernel
theorem d_En_wordComes_87 : decode prog_2_method_14_code 87 = .ok (.iload_n 2, 1) := by decide +kernel
theorem d_En_wordComes_88 : decode prog_2_method_14_code 88 = .ok (.iload_n 3, 1) := by decide +kernel
theorem d_En_wordComes_89 : decode prog_2_method_14_code 89 = .ok (.iload 4, 2) := by decide +kernel
theorem d_En_wordComes_91 : decode prog_2_method_14_code 91 = .ok (.aload_n 0, 1) := by decide +kernel
theorem d_En_wordComes_92 : decode prog_2_method_14_code 92 = .ok (.getfield 12, 3) := by decide +kernel
theorem d_En_wordComes_95 : decode prog_2_method_14_code 95 = .ok (.getfield 172, 3) := by decide +kernel
theorem d_En_wordComes_98 : decode prog_2_method_14_code 98 = .ok (.iload_n 1, 1) := by decide +kernel
theorem d_En_wordComes_99 : decode prog_2_method_14_code 99 = .ok (.iaload, 1) := by decide +kernel
theorem d_En_wordComes_100 : decode prog_2_method_14_code 100 = .ok (.invokevirtual 201, 3) := by decide +kernel
theorem d_En_wordComes_103 : decode prog_2_method_14_code 103 = .ok (.goto 20, 3) := by decide +kernel
theorem d_En_wordComes_106 : decode prog_2_method_14_code 106 = .ok (.aload_n 0, 1) := by decide +kernel
theorem d_En_wordComes_107 : decode prog_2_method_14_code 107 = .ok (.iload_n 2, 1) := by decide +kernel
theorem d_En_wordComes_108 : decode prog_2_method_14_code 108 = .ok (.iload_n 3, 1) := by decide +kernel
theorem d_En_wordComes_109 : decode prog_2_method_14_code 109 = .ok (.iload 4, 2) := by decide +kernel
theorem d_En_wordComes_111 : decode prog_2_method_14_code 111 = .ok (.aload_n 0, 1) := by decide +kernel
theorem d_En_wordComes_112 : decode prog_2_method_14_code 112 = .ok (.getfield 12, 3) := by decide +kernel
theorem d_En_wordComes_115 : decode prog_2_method_14_code 115 = .ok (.getfield 172, 3) := by decide +kernel
theorem d_En_wordComes_118 : decode prog_2_method_14_code 118 = .ok (.iload_n 1, 1) := by decide +kernel
theorem d_En_wordComes_119 : decode prog_2_method_14_code 119 = .ok (.iaload, 1) := by decide +kernel
theorem d_En_wordComes_120 : decode prog_2_method_14_code 120 = .ok (.invokevirtual 205, 3) := by decide +kernel
theorem d_En_wordComes_123 : decode prog_2_method_14_code 123 = .ok (.istore 5, 2) := by decide +kernel
theorem d_En_wordComes_125 : decode prog_2_method_14_code 125 = .ok (.aload_n 0, 1) := by decide +kernel
theorem d_En_wordComes_126 : decode prog_2_method_14_code 126 = .ok (.getfield 22, 3) := by decide +kernel
theorem d_En_wordComes_129 : decode prog_2_method_14_code 129 = .ok (.getfield 78, 3) := by decide +kernel
theorem d_En_wordComes_132 : decode prog_2_method_14_code 132 = .ok (.iload_n 3, 1) := by decide +kernel
theorem d_En_wordComes_133 : decode prog_2_method_14_code 133 = .ok (.aaload, 1) := by decide +kernel
theorem d_En_wordComes_134 : decode prog_2_method_14_code 134 = .ok (.getfield 137, 3) := by decide +kernel
theorem d_En_wordComes_137 : decode prog_2_method_14_code 137 = .ok (.istore 6, 2) := by decide +kernel
theorem d_En_wordComes_139 : decode prog_2_method_14_code 139 = .ok (.aload_n 0, 1) := by decide +kernel
theorem d_En_wordComes_140 : decode prog_2_method_14_code 140 = .ok (.getfield 12, 3) := by decide +kernel
theorem d_En_wordComes_143 : decode prog_2_method_14_code 143 = .ok (.getfield 175, 3) := by decide +kernel
theorem d_En_wordComes_146 : decode prog_2_method_14_code 146 = .ok (.iload_n 1, 1) := by decide +kernel
theorem d_En_wordComes_147 : decode prog_2_method_14_code 147 = .ok (.iaload, 1) := by decide +kernel
theorem d_En_wordComes_148 : decode prog_2_method_14_code 148 = .ok (.iconst 1, 1) := by decide +kernel
theorem d_En_wordComes_149 : decode prog_2_method_14_code 149 = .ok (.iadd, 1) := by decide +kernel
theorem d_En_wordComes_150 : decode prog_2_method_14_code 150 = .ok (.istore 7, 2) := by decide +kernel
theorem d_En_wordComes_152 : decode prog_2_method_14_code 152 = .ok (.iload 5, 2) := by decide +kernel
theorem d_En_wordComes_154 : decode prog_2_method_14_code 154 = .ok (.ifCond .eq 46, 3) := by decide +kernel
theorem d_En_wordComes_157 : decode prog_2_method_14_code 157 = .ok (.iload 6, 2) := by decide +kernel
theorem d_En_wordComes_159 : decode prog_2_method_14_code 159 = .ok (.bipush (-2), 2) := by decide +kernel
theorem d_En_wordComes_161 : decode prog_2_method_14_code 161 = .ok (.if_icmp .eq 39, 3) := by decide +kernel
theorem d_En_wordComes_164 : decode prog_2_method_14_code 164 = .ok (.iload 7, 2) := by decide +kernel
theorem d_En_wordComes_166 : decode prog_2_method_14_code 166 = .ok (.bipush 12, 2) := by decide +kernel
theorem d_En_wordComes_168 : decode prog_2_method_14_code 168 = .ok (.if_icmp .ge 32, 3) := by decide +kernel
theorem d_En_wordComes_171 : decode prog_2_method_14_code 171 = .ok (.aload_n 0, 1) := by decide +kernel
theorem d_En_wordComes_172 : decode prog_2_method_14_code 172 = .ok (.aload_n 0, 1) := by decide +kernel
theorem d_En_wordComes_173 : decode prog_2_method_14_code 173 = .ok (.getfield 12, 3) := by decide +kernel
theorem d_En_wordComes_176 : decode prog_2_method_14_code 176 = .ok (.getfield 121, 3) := by decide +kernel
theorem d_En_wordComes_179 : decode prog_2_method_14_code 179 = .ok (.iload_n 1, 1) := by decide +kernel
theorem d_En_wordComes_180 : decode prog_2_method_14_code 180 = .ok (.iaload, 1) := by decide +kernel
theorem d_En_wordComes_181 : decode prog_2_method_14_code 181 = .ok (.iload_n 3, 1) := by decide +kernel
theorem d_En_wordComes_182 : decode prog_2_method_14_code 182 = .ok (.iload 6, 2) := by decide +kernel
theorem d_En_wordComes_184 : decode prog_2_method_14_code 184 = .ok (.iload 4, 2) := by decide +kernel
theorem d_En_wordComes_186 : decode prog_2_method_14_code 186 = .ok (.aload_n 0, 1) := by decide +kernel
theorem d_En_wordComes_187 : decode prog_2_method_14_code 187 = .ok (.getfield 12, 3) := by decide +kernel
theorem d_En_wordComes_190 : decode prog_2_method_14_code 190 = .ok (.getfield 172, 3) := by decide +kernel
theorem d_En_wordComes_193 : decode prog_2_method_14_code 193 = .ok (.iload_n 1, 1) := by decide +kernel
theorem d_En_wordComes_194 : decode prog_2_method_14_code 194 = .ok (.iaload, 1) := by decide +kernel
theorem d_En_wordComes_195 : decode prog_2_method_14_code 195 = .ok (.iload 7, 2) := by decide +kernel
theorem d_En_wordComes_197 : decode prog_2_method_14_code 197 = .ok (.invokevirtual 159, 3) := by decide +kernel
theorem d_En_wordComes_200 : decode prog_2_method_14_code 200 = .ok (.return_, 1) := by decide +kernel
def wp_En_wordComes_b200 (n : Nat)  (Q : sx_M → Prop)  (σ : sx_M) : Prop := Q σ
def wp_En_wordComes_b123 (n : Nat)  (Q : sx_M → Prop) (v1 : Int32) (v3 : Int32) (v4 : Int32) (w0 : Int32) (σ : sx_M) : Prop := vp_in v3 7 ∧ (vp_in v1 200 ∧ (if w0 = 0 then (wp_En_wordComes_b200 n Q σ) else (if σ 27 n v3.toNatClampNeg 3 = (-2) then (wp_En_wordComes_b200 n Q σ) else (if 12 ≤ (σ 26 (25 + n) 0 v1.toNatClampNeg) + 1 then (wp_En_wordComes_b200 n Q σ) else (vp_in v1 200 ∧ (vp_in v1 200 ∧ (wp_En_put n (σ 21 (25 + n) 0 v1.toNatClampNeg) v3 (σ 27 n v3.toNatClampNeg 3) v4 (σ 25 (25 + n) 0 v1.toNatClampNeg) ((σ 26 (25 + n) 0 v1.toNatClampNeg) + 1) σ (fun σ8 => wp_En_wordComes_b200 n Q σ8))))))))
def wp_En_wordComes_b52 (n : Nat)  (Q : sx_M → Prop)  (σ : sx_M) : Prop := ∀ σ9 : sx_M, σ9 = sx_u σ 16 n 0 6 ((σ 16 n 0 6) + 1) → (Q σ9)
def wp_En_wordComes (n : Nat) (x1 : Int32) (σ : sx_M) (Q : sx_M → Prop) : Prop := vp_in x1 200 ∧ (vp_in x1 200 ∧ (vp_in x1 200 ∧ (wp_Ne_areNeighbours n (σ 22 (25 + n) 0 x1.toNatClampNeg) (σ 23 (25 + n) 0 x1.toNatClampNeg) σ (fun r13 σ13 => if r13 = 0 then (wp_En_wordComes_b52 n Q σ13) else (wp_En_isDrowned n (σ 22 (25 + n) 0 x1.toNatClampNeg) (σ 23 (25 + n) 0 x1.toNatClampNeg) σ13 (fun r15 σ15 => if r15 = 0 then (if σ 24 (25 + n) 0 x1.toNatClampNeg = σ 23 (25 + n) 0 x1.toNatClampNeg then (Q σ15) else (vp_in x1 200 ∧ (if σ15 21 (25 + n) 0 x1.toNatClampNeg = 1 then (vp_in x1 200 ∧ (wp_En_takeReach n (σ 22 (25 + n) 0 x1.toNatClampNeg) (σ 23 (25 + n) 0 x1.toNatClampNeg) (σ 24 (25 + n) 0 x1.toNatClampNeg) (σ15 25 (25 + n) 0 x1.toNatClampNeg) σ15 (fun r23 σ23 => wp_En_wordComes_b123 n Q x1 (σ 23 (25 + n) 0 x1.toNatClampNeg) (σ 24 (25 + n) 0 x1.toNatClampNeg) r23 σ23))) else (vp_in x1 200 ∧ (wp_En_takeGone n (σ 22 (25 + n) 0 x1.toNatClampNeg) (σ 23 (25 + n) 0 x1.toNatClampNeg) (σ 24 (25 + n) 0 x1.toNatClampNeg) (σ15 25 (25 + n) 0 x1.toNatClampNeg) σ15 (fun r21 σ21 => wp_En_wordComes_b123 n Q x1 (σ 23 (25 + n) 0 x1.toNatClampNeg) (σ 24 (25 + n) 0 x1.toNatClampNeg) r21 σ21)))))) else (wp_En_wordComes_b52 n Q σ15)))))))
abbrev rm_En_wordComes : Room := { frames := 2, cells := 0, slots := 0, locals := 47 }
set_option maxRecDepth 100000 in
set_option maxHeartbeats 4000000 in
theorem g_En_wordComes_b200 {l : Launch} {K : sx_K} {X : sx_T} {n : Nat}  {Q : sx_M → Prop} (hX : sx_C X K prog_2_method_14_code 8 "SensorTree$Engine" none rm_En_wordComes l) (hK : kx_C K) (hE : sx_E X K (sx_Qv K (fun σ _ => Q σ))) (hn : n < 2)  (σ : sx_M) (τ : sx_L)  (h : wp_En_wordComes_b200 n Q  σ) : sx_G X K 8 200 [] [] (sx_H K σ τ) := by
  unfold wp_En_wordComes_b200 at h
  exact sx_vret hX hE h d_En_wordComes_200
set_option maxRecDepth 100000 in
set_option maxHeartbeats 4000000 in
theorem g_En_wordComes_b123 {l : Launch} {K : sx_K} {X : sx_T} {n : Nat}  {Q : sx_M → Prop} (hX : sx_C X K prog_2_method_14_code 8 "SensorTree$Engine" none rm_En_wordComes l) (hK : kx_C K) (hE : sx_E X K (sx_Qv K (fun σ _ => Q σ))) (hn : n < 2) (v1 : Int32) (v3 : Int32) (v4 : Int32) (w0 : Int32) (σ : sx_M) (τ : sx_L)  (h : wp_En_wordComes_b123 n Q  v1 v3 v4 w0 σ) : sx_G X K 8 123 [(0, .ref (K.2.2.1 31 n 0)), (1, .int v1), (3, .int v3), (4, .int v4)] [.int w0] (sx_H K σ τ) := by
  unfold wp_En_wordComes_b123 at h
  refine sx_istore (pc2 := 125) hX _ [(0, .ref (K.2.2.1 31 n 0)), (1, .int v1), (3, .int v3), (4, .int v4), (5, .int w0)] [1, 2, 3, 4, 0] d_En_wordComes_123 (by decide) rfl rfl rfl ?_
  refine sx_aload_n (pc2 := 126) hX 0 d_En_wordComes_125 rfl rfl rfl ?_
  refine fg_En_22 (pc2 := 129) hX (hK 31 n 0 hn (by decide)) d_En_wordComes_126 rfl ?_
  refine fg_En_78 (pc2 := 132) hX (hK 16 n 0 (sx_w2 hn) (by decide)) d_En_wordComes_129 rfl ?_
  refine sx_iload_n (pc2 := 133) hX 2 d_En_wordComes_132 rfl rfl rfl ?_
  obtain ⟨hc1, h⟩ := h
  refine sx_aald (a := K.2.2.1 27 n v3.toNatClampNeg) (pc2 := 134) hX (hK 17 n 0 (sx_w2 hn) (by decide)) 4 rfl rfl rfl hc1 d_En_wordComes_133 rfl ?_
  refine fg_En_137 (pc2 := 137) hX (hK 27 n v3.toNatClampNeg (sx_w2 hn) (sx_lt hc1)) d_En_wordComes_134 rfl ?_
  refine sx_istore (pc2 := 139) hX _ [(0, .ref (K.2.2.1 31 n 0)), (1, .int v1), (3, .int v3), (4, .int v4), (5, .int w0), (6, .int (σ 27 n v3.toNatClampNeg 3))] [1, 2, 3, 4, 5, 0] d_En_wordComes_137 (by decide) rfl rfl rfl ?_
  refine sx_aload_n (pc2 := 140) hX 0 d_En_wordComes_139 rfl rfl rfl ?_
  refine fg_En_12 (pc2 := 143) hX (hK 31 n 0 hn (by decide)) d_En_wordComes_140 rfl ?_
  refine fg_En_175 (pc2 := 146) hX (hK 20 (25 + n) 0 (sx_w27 hn) (by decide)) d_En_wordComes_143 rfl ?_
  refine sx_iload_n (pc2 := 147) hX 1 d_En_wordComes_146 rfl rfl rfl ?_
  obtain ⟨hc2, h⟩ := h
  refine sx_iald (pc2 := 148) hX (hK 26 (25 + n) 0 (sx_w27 hn) (by decide)) rfl hc2 d_En_wordComes_147 rfl ?_
  refine sx_iconst (v := 1) (pc2 := 149) hX d_En_wordComes_148 (by decide) rfl ?_
  refine sx_iadd (pc2 := 150) hX d_En_wordComes_149 rfl ?_
  refine sx_istore (pc2 := 152) hX _ [(0, .ref (K.2.2.1 31 n 0)), (1, .int v1), (3, .int v3), (4, .int v4), (5, .int w0), (6, .int (σ 27 n v3.toNatClampNeg 3)), (7, .int ((σ 26 (25 + n) 0 v1.toNatClampNeg) + 1))] [1, 2, 3, 4, 5, 6, 0] d_En_wordComes_150 (by decide) rfl rfl rfl ?_
  refine sx_iload (pc2 := 154) hX 4 d_En_wordComes_152 rfl rfl ?_
  refine sx_if_eq (tgt := 200) (pc2 := 157) hX d_En_wordComes_154 (by decide) rfl (fun hc3 => ?_) (fun hc3 => ?_)
  · replace h := sx_t h hc3
    refine sx_sub [] [] rfl ?_
    exact g_En_wordComes_b200 hX hK hE hn  _ _ h
  · replace h := sx_f h hc3
    refine sx_iload (pc2 := 159) hX 5 d_En_wordComes_157 rfl rfl ?_
    refine sx_bipush (v := (-2)) (pc2 := 161) hX d_En_wordComes_159 (by decide) rfl ?_
    refine sx_icmp_eq (tgt := 200) (pc2 := 164) hX d_En_wordComes_161 (by decide) rfl (fun hc4 => ?_) (fun hc4 => ?_)
    · replace h := sx_t h hc4
      refine sx_sub [] [] rfl ?_
      exact g_En_wordComes_b200 hX hK hE hn  _ _ h
    · replace h := sx_f h hc4
      refine sx_iload (pc2 := 166) hX 6 d_En_wordComes_164 rfl rfl ?_
      refine sx_bipush (v := 12) (pc2 := 168) hX d_En_wordComes_166 (by decide) rfl ?_
      refine sx_icmp_ge (tgt := 200) (pc2 := 171) hX d_En_wordComes_168 (by decide) rfl (fun hc5 => ?_) (fun hc5 => ?_)
      · replace h := sx_t h hc5
        refine sx_sub [] [] rfl ?_
        exact g_En_wordComes_b200 hX hK hE hn  _ _ h
      · replace h := sx_f h hc5
        refine sx_aload_n (pc2 := 172) hX 0 d_En_wordComes_171 rfl rfl rfl ?_
        refine sx_aload_n (pc2 := 173) hX 0 d_En_wordComes_172 rfl rfl rfl ?_
        refine fg_En_12 (pc2 := 176) hX (hK 31 n 0 hn (by decide)) d_En_wordComes_173 rfl ?_
        refine fg_En_121 (pc2 := 179) hX (hK 20 (25 + n) 0 (sx_w27 hn) (by decide)) d_En_wordComes_176 rfl ?_
        refine sx_iload_n (pc2 := 180) hX 1 d_En_wordComes_179 rfl rfl rfl ?_
        obtain ⟨hc6, h⟩ := h
        refine sx_iald (pc2 := 181) hX (hK 21 (25 + n) 0 (sx_w27 hn) (by decide)) rfl hc6 d_En_wordComes_180 rfl ?_
        refine sx_iload_n (pc2 := 182) hX 2 d_En_wordComes_181 rfl rfl rfl ?_
        refine sx_iload (pc2 := 184) hX 5 d_En_wordComes_182 rfl rfl ?_
        refine sx_iload (pc2 := 186) hX 3 d_En_wordComes_184 rfl rfl ?_
        refine sx_aload_n (pc2 := 187) hX 0 d_En_wordComes_186 rfl rfl rfl ?_
        refine fg_En_12 (pc2 := 190) hX (hK 31 n 0 hn (by decide)) d_En_wordComes_187 rfl ?_
        refine fg_En_172 (pc2 := 193) hX (hK 20 (25 + n) 0 (sx_w27 hn) (by decide)) d_En_wordComes_190 rfl ?_
        refine sx_iload_n (pc2 := 194) hX 1 d_En_wordComes_193 rfl rfl rfl ?_
        obtain ⟨hc7, h⟩ := h
        refine sx_iald (pc2 := 195) hX (hK 25 (25 + n) 0 (sx_w27 hn) (by decide)) rfl hc7 d_En_wordComes_194 rfl ?_
        refine sx_iload (pc2 := 197) hX 6 d_En_wordComes_195 rfl rfl ?_
        refine cl_En_159 (pc2 := 200) hX hK h hn ⟨Nat.le_of_ble_eq_true rfl, Nat.le_of_ble_eq_true rfl⟩ (Nat.le_of_ble_eq_true rfl) d_En_wordComes_197 rfl (fun σ8 τ8 h => ?_)
        refine sx_sub [] [] rfl ?_
        exact g_En_wordComes_b200 hX hK hE hn  _ _ h
set_option maxRecDepth 100000 in
set_option maxHeartbeats 4000000 in
theorem g_En_wordComes_b52 {l : Launch} {K : sx_K} {X : sx_T} {n : Nat}  {Q : sx_M → Prop} (hX : sx_C X K prog_2_method_14_code 8 "SensorTree$Engine" none rm_En_wordComes l) (hK : kx_C K) (hE : sx_E X K (sx_Qv K (fun σ _ => Q σ))) (hn : n < 2)  (σ : sx_M) (τ : sx_L)  (h : wp_En_wordComes_b52 n Q  σ) : sx_G X K 8 52 [(0, .ref (K.2.2.1 31 n 0))] [] (sx_H K σ τ) := by
  unfold wp_En_wordComes_b52 at h
  refine sx_aload_n (pc2 := 53) hX 0 d_En_wordComes_52 rfl rfl rfl ?_
  refine fg_En_22 (pc2 := 56) hX (hK 31 n 0 hn (by decide)) d_En_wordComes_53 rfl ?_
  refine sx_dup (pc2 := 57) hX d_En_wordComes_56 rfl rfl ?_
  refine fg_En_48 (pc2 := 60) hX (hK 16 n 0 (sx_w2 hn) (by decide)) d_En_wordComes_57 rfl ?_
  refine sx_iconst (v := 1) (pc2 := 61) hX d_En_wordComes_60 (by decide) rfl ?_
  refine sx_iadd (pc2 := 62) hX d_En_wordComes_61 rfl ?_
  refine fp_En_48 (pc2 := 65) hX (hK 16 n 0 (sx_w2 hn) (by decide)) d_En_wordComes_62 rfl ?_
  refine sx_nm (fun σ9 e9 => ?_)
  replace h := h σ9 e9
  exact sx_vret hX hE h d_En_wordComes_65
set_option maxRecDepth 100000 in
set_option maxHeartbeats 4000000 in
theorem c_En_wordComes {l : Launch} {K : sx_K} (hK : kx_C K) (n : Nat) (x1 : Int32) (σ : sx_M) (τ : sx_L) (Q : sx_M → Prop) (hn : n < 2) (h : wp_En_wordComes n x1 σ Q) : Met l y_En_wordComes (sx_wd y_En_wordComes prog_2_method_14_code 8 none) rm_En_wordComes (sx_Pc K [.ref (K.2.2.1 31 n 0), .int x1] σ τ) (sx_Qv K (fun σ _ => Q σ)) 0 0 (sx_A K) := by
  refine sx_met (by decide) (Nat.le_of_ble_eq_true rfl) (fun X hX hE => ?_)
  replace hX : sx_C X K prog_2_method_14_code 8 "SensorTree$Engine" none rm_En_wordComes l := hX
  show sx_G X K 8 0 [(0, .ref (K.2.2.1 31 n 0)), (1, .int x1)] [] (sx_H K σ τ)
  unfold wp_En_wordComes at h
  refine sx_aload_n (pc2 := 1) hX 0 d_En_wordComes_0 rfl rfl rfl ?_
  refine fg_En_12 (pc2 := 4) hX (hK 31 n 0 hn (by decide)) d_En_wordComes_1 rfl ?_
  refine fg_En_163 (pc2 := 7) hX (hK 20 (25 + n) 0 (sx_w27 hn) (by decide)) d_En_wordComes_4 rfl ?_
  refine sx_iload_n (pc2 := 8) hX 1 d_En_wordComes_7 rfl rfl rfl ?_
  obtain ⟨hc10, h⟩ := h
  refine sx_iald (pc2 := 9) hX (hK 22 (25 + n) 0 (sx_w27 hn) (by decide)) rfl hc10 d_En_wordComes_8 rfl ?_
  refine sx_istore_n (pc2 := 10) hX _ [(0, .ref (K.2.2.1 31 n 0)), (1, .int x1), (2, .int (σ 22 (25 + n) 0 x1.toNatClampNeg))] [1, 2, 0] d_En_wordComes_9 rfl (by decide) rfl rfl rfl ?_
  refine sx_aload_n (pc2 := 11) hX 0 d_En_wordComes_10 rfl rfl rfl ?_
  refine fg_En_12 (pc2 := 14) hX (hK 31 n 0 hn (by decide)) d_En_wordComes_11 rfl ?_
  refine fg_En_166 (pc2 := 17) hX (hK 20 (25 + n) 0 (sx_w27 hn) (by decide)) d_En_wordComes_14 rfl ?_
  refine sx_iload_n (pc2 := 18) hX 1 d_En_wordComes_17 rfl rfl rfl ?_
  obtain ⟨hc11, h⟩ := h
  refine sx_iald (pc2 := 19) hX (hK 23 (25 + n) 0 (sx_w27 hn) (by decide)) rfl hc11 d_En_wordComes_18 rfl ?_
  refine sx_istore_n (pc2 := 20) hX _ [(0, .ref (K.2.2.1 31 n 0)), (1, .int x1), (2, .int (σ 22 (25 + n) 0 x1.toNatClampNeg)), (3, .int (σ 23 (25 + n) 0 x1.toNatClampNeg))] [1, 2, 3, 0] d_En_wordComes_19 rfl (by decide) rfl rfl rfl ?_
  refine sx_aload_n (pc2 := 21) hX 0 d_En_wordComes_20 rfl rfl rfl ?_
  refine fg_En_12 (pc2 := 24) hX (hK 31 n 0 hn (by decide)) d_En_wordComes_21 rfl ?_
  refine fg_En_169 (pc2 := 27) hX (hK 20 (25 + n) 0 (sx_w27 hn) (by decide)) d_En_wordComes_24 rfl ?_
  refine sx_iload_n (pc2 := 28) hX 1 d_En_wordComes_27 rfl rfl rfl ?_
  obtain ⟨hc12, h⟩ := h
  refine sx_iald (pc2 := 29) hX (hK 24 (25 + n) 0 (sx_w27 hn) (by decide)) rfl hc12 d_En_wordComes_28 rfl ?_
  refine sx_istore (pc2 := 31) hX _ [(0, .ref (K.2.2.1 31 n 0)), (1, .int x1), (2, .int (σ 22 (25 + n) 0 x1.toNatClampNeg)), (3, .int (σ 23 (25 + n) 0 x1.toNatClampNeg)), (4, .int (σ 24 (25 + n) 0 x1.toNatClampNeg))] [1, 2, 3, 4, 0] d_En_wordComes_29 (by decide) rfl rfl rfl ?_
  refine sx_aload_n (pc2 := 32) hX 0 d_En_wordComes_31 rfl rfl rfl ?_
  refine fg_En_22 (pc2 := 35) hX (hK 31 n 0 hn (by decide)) d_En_wordComes_32 rfl ?_
  refine sx_iload_n (pc2 := 36) hX 2 d_En_wordComes_35 rfl rfl rfl ?_
  refine sx_iload_n (pc2 := 37) hX 3 d_En_wordComes_36 rfl rfl rfl ?_
  refine cl_En_178 (pc2 := 40) hX hK h (sx_w2 hn) ⟨Nat.le_of_ble_eq_true rfl, Nat.le_of_ble_eq_true rfl⟩ (Nat.le_of_ble_eq_true rfl) d_En_wordComes_37 rfl (fun r13 σ13 τ13 h => ?_)
  refine sx_if_eq (tgt := 52) (pc2 := 43) hX d_En_wordComes_40 (by decide) rfl (fun hc14 => ?_) (fun hc14 => ?_)
  · replace h := sx_t h hc14
    refine sx_sub [(0, .ref (K.2.2.1 31 n 0))] [0] rfl ?_
    exact g_En_wordComes_b52 hX hK hE hn  _ _ h
  · replace h := sx_f h hc14
    refine sx_aload_n (pc2 := 44) hX 0 d_En_wordComes_43 rfl rfl rfl ?_
    refine sx_iload_n (pc2 := 45) hX 2 d_En_wordComes_44 rfl rfl rfl ?_
    refine sx_iload_n (pc2 := 46) hX 3 d_En_wordComes_45 rfl rfl rfl ?_
    refine cl_En_182 (pc2 := 49) hX hK h hn ⟨Nat.le_of_ble_eq_true rfl, Nat.le_of_ble_eq_true rfl⟩ (Nat.le_of_ble_eq_true rfl) d_En_wordComes_46 rfl (fun r15 σ15 τ15 h => ?_)
    refine sx_if_eq (tgt := 66) (pc2 := 52) hX d_En_wordComes_49 (by decide) rfl (fun hc16 => ?_) (fun hc16 => ?_)
    · replace h := sx_t h hc16
      refine sx_iload (pc2 := 68) hX 4 d_En_wordComes_66 rfl rfl ?_
      refine sx_iload_n (pc2 := 69) hX 3 d_En_wordComes_68 rfl rfl rfl ?_
      refine sx_icmp_ne (tgt := 73) (pc2 := 72) hX d_En_wordComes_69 (by decide) rfl (fun hc17 => ?_) (fun hc17 => ?_)
      · replace h := sx_f h hc17
        refine sx_aload_n (pc2 := 74) hX 0 d_En_wordComes_73 rfl rfl rfl ?_
        refine fg_En_12 (pc2 := 77) hX (hK 31 n 0 hn (by decide)) d_En_wordComes_74 rfl ?_
        refine fg_En_121 (pc2 := 80) hX (hK 20 (25 + n) 0 (sx_w27 hn) (by decide)) d_En_wordComes_77 rfl ?_
        refine sx_iload_n (pc2 := 81) hX 1 d_En_wordComes_80 rfl rfl rfl ?_
        obtain ⟨hc18, h⟩ := h
        refine sx_iald (pc2 := 82) hX (hK 21 (25 + n) 0 (sx_w27 hn) (by decide)) rfl hc18 d_En_wordComes_81 rfl ?_
        refine sx_iconst (v := 1) (pc2 := 83) hX d_En_wordComes_82 (by decide) rfl ?_
        refine sx_icmp_ne (tgt := 106) (pc2 := 86) hX d_En_wordComes_83 (by decide) rfl (fun hc19 => ?_) (fun hc19 => ?_)
        · replace h := sx_f h hc19
          refine sx_aload_n (pc2 := 107) hX 0 d_En_wordComes_106 rfl rfl rfl ?_
          refine sx_iload_n (pc2 := 108) hX 2 d_En_wordComes_107 rfl rfl rfl ?_
          refine sx_iload_n (pc2 := 109) hX 3 d_En_wordComes_108 rfl rfl rfl ?_
          refine sx_iload (pc2 := 111) hX 4 d_En_wordComes_109 rfl rfl ?_
          refine sx_aload_n (pc2 := 112) hX 0 d_En_wordComes_111 rfl rfl rfl ?_
          refine fg_En_12 (pc2 := 115) hX (hK 31 n 0 hn (by decide)) d_En_wordComes_112 rfl ?_
          refine fg_En_172 (pc2 := 118) hX (hK 20 (25 + n) 0 (sx_w27 hn) (by decide)) d_En_wordComes_115 rfl ?_
          refine sx_iload_n (pc2 := 119) hX 1 d_En_wordComes_118 rfl rfl rfl ?_
          obtain ⟨hc20, h⟩ := h
          refine sx_iald (pc2 := 120) hX (hK 25 (25 + n) 0 (sx_w27 hn) (by decide)) rfl hc20 d_En_wordComes_119 rfl ?_
          refine cl_En_205 (pc2 := 123) hX hK h hn ⟨Nat.le_of_ble_eq_true rfl, Nat.le_of_ble_eq_true rfl⟩ (Nat.le_of_ble_eq_true rfl) d_En_wordComes_120 rfl (fun r21 σ21 τ21 h => ?_)
          refine sx_sub [(0, .ref (K.2.2.1 31 n 0)), (1, .int x1), (3, .int (σ 23 (25 + n) 0 x1.toNatClampNeg)), (4, .int (σ 24 (25 + n) 0 x1.toNatClampNeg))] [0, 1, 3, 4] rfl ?_
          exact g_En_wordComes_b123 hX hK hE hn  x1 (σ 23 (25 + n) 0 x1.toNatClampNeg) (σ 24 (25 + n) 0 x1.toNatClampNeg) r21 _ _ h
        · replace h := sx_t h hc19
          refine sx_aload_n (pc2 := 87) hX 0 d_En_wordComes_86 rfl rfl rfl ?_
          refine sx_iload_n (pc2 := 88) hX 2 d_En_wordComes_87 rfl rfl rfl ?_
          refine sx_iload_n (pc2 := 89) hX 3 d_En_wordComes_88 rfl rfl rfl ?_
          refine sx_iload (pc2 := 91) hX 4 d_En_wordComes_89 rfl rfl ?_
          refine sx_aload_n (pc2 := 92) hX 0 d_En_wordComes_91 rfl rfl rfl ?_
          refine fg_En_12 (pc2 := 95) hX (hK 31 n 0 hn (by decide)) d_En_wordComes_92 rfl ?_
          refine fg_En_172 (pc2 := 98) hX (hK 20 (25 + n) 0 (sx_w27 hn) (by decide)) d_En_wordComes_95 rfl ?_
          refine sx_iload_n (pc2 := 99) hX 1 d_En_wordComes_98 rfl rfl rfl ?_
          obtain ⟨hc22, h⟩ := h
          refine sx_iald (pc2 := 100) hX (hK 25 (25 + n) 0 (sx_w27 hn) (by decide)) rfl hc22 d_En_wordComes_99 rfl ?_
          refine cl_En_201 (pc2 := 103) hX hK h hn ⟨Nat.le_of_ble_eq_true rfl, Nat.le_of_ble_eq_true rfl⟩ (Nat.le_of_ble_eq_true rfl) d_En_wordComes_100 rfl (fun r23 σ23 τ23 h => ?_)
          refine sx_goto (tgt := 123) hX d_En_wordComes_103 (by decide) ?_
          refine sx_sub [(0, .ref (K.2.2.1 31 n 0)), (1, .int x1), (3, .int (σ 23 (25 + n) 0 x1.toNatClampNeg)), (4, .int (σ 24 (25 + n) 0 x1.toNatClampNeg))] [0, 1, 3, 4] rfl ?_
          exact g_En_wordComes_b123 hX hK hE hn  x1 (σ 23 (25 + n) 0 x1.toNatClampNeg) (σ 24 (25 + n) 0 x1.toNatClampNeg) r23 _ _ h
      · replace h := sx_t h hc17
        exact sx_vret hX hE h d_En_wordComes_72
    · replace h := sx_f h hc16
      refine sx_sub [(0, .ref (K.2.2.1 31 n 0))] [0] rfl ?_
      exact g_En_wordComes_b52 hX hK hE hn  _ _ h
theorem cl_En_127 {X : sx_T} {K : sx_K} {cc : ByteArray} {nL : Nat} {ret : Option FieldType} {rm : Room} {l : Launch} {pc pc2 : Nat} {lv : List (Nat × Value)} {st : List Value} {σ : sx_M} {τ : sx_L} {n : Nat} {x1 : Int32} {Q : sx_M → Prop} (hX : sx_C X K cc nL "SensorTree$Engine" ret rm l) (hK : kx_C K) (h : wp_En_wordComes n x1 σ Q) (hn : n < 2) (hR : rm_En_wordComes.frames + 1 ≤ rm.frames ∧ 8 + (8 + 11) + rm_En_wordComes.locals ≤ rm.locals) (hst : (st.map fun v => v.category).sum ≤ 8) (hd : decode cc pc = .ok (.invokevirtual 127, 3)) (hpc : pc + 3 = pc2) (kk : ∀ (σ2 : sx_M) (τ2 : sx_L), Q σ2 → sx_G X K nL pc2 lv (st) (sx_H K σ2 τ2)) : sx_G X K nL pc lv (.int x1 :: .ref (K.2.2.1 31 n 0) :: st) (sx_H K σ τ) :=
  sx_callVv (Q := fun σ _ => Q σ) (As := [.int x1]) hX (c_En_wordComes hK n x1 σ τ Q hn h) (hK 31 n 0 hn (by decide)) rfl rfl lk_104 ls_24 hy_En_wordComes lk_102 lk_27 lk_103 ⟨rfl, rfl⟩ hR hst rfl hd hpc kk
def y_En_goOn : MethodName := ⟨"SensorTree$Engine", "goOn", "(I)V"⟩
theorem hy_En_goOn : y_En_goOn.cls ≠ "java/lang/invoke/MethodHandle" ∧ y_En_goOn.cls ≠ "java/lang/invoke/VarHandle" ∧ (parseMethodDescriptor y_En_goOn.desc).map (fun d => d.parameters.length) = some 1 := by decide +kernel
theorem d_En_goOn_0 : decode prog_2_method_9_code 0 = .ok (.aload_n 0, 1) := by decide +kernel
theorem d_En_goOn_1 : decode prog_2_method_9_code 1 = .ok (.getfield 22, 3) := by decide +kernel
theorem d_En_goOn_4 : decode prog_2_method_9_code 4 = .ok (.getfield 78, 3) := by decide +kernel
theorem d_En_goOn_7 : decode prog_2_method_9_code 7 = .ok (.iload_n 1, 1) := by decide +kernel
theorem d_En_goOn_8 : decode prog_2_method_9_code 8 = .ok (.aaload, 1) := by decide +kernel
theorem d_En_goOn_9 : decode prog_2_method_9_code 9 = .ok (.astore_n 2, 1) := by decide +kernel
theorem d_En_goOn_10 : decode prog_2_method_9_code 10 = .ok (.aload_n 2, 1) := by decide +kernel
theorem d_En_goOn_11 : decode prog_2_method_9_code 11 = .ok (.getfield 147, 3) := by decide +kernel
theorem d_En_goOn_14 : decode prog_2_method_9_code 14 = .ok (.ifCond .le 18, 3) := by decide +kernel
theorem d_En_goOn_17 : decode prog_2_method_9_code 17 = .ok (.aload_n 2, 1) := by decide +kernel
theorem d_En_goOn_18 : decode prog_2_method_9_code 18 = .ok (.dup, 1) := by decide +kernel
theorem d_En_goOn_19 : decode prog_2_method_9_code 19 = .ok (.getfield 147, 3) := by decide +kernel
theorem d_En_goOn_22 : decode prog_2_method_9_code 22 = .ok (.iconst 1, 1) := by decide +kernel
theorem d_En_goOn_23 : decode prog_2_method_9_code 23 = .ok (.isub, 1) := by decide +kernel
theorem d_En_goOn_24 : decode prog_2_method_9_code 24 = .ok (.putfield 147, 3) := by decide +kernel
theorem d_En_goOn_27 : decode prog_2_method_9_code 27 = .ok (.aload_n 0, 1) := by decide +kernel
theorem d_En_goOn_28 : decode prog_2_method_9_code 28 = .ok (.iload_n 1, 1) := by decide +kernel
theorem d_En_goOn_29 : decode prog_2_method_9_code 29 = .ok (.invokevirtual 150, 3) := by decide +kernel
theorem d_En_goOn_32 : decode prog_2_method_9_code 32 = .ok (.aload_n 2, 1) := by decide +kernel
theorem d_En_goOn_33 : decode prog_2_method_9_code 33 = .ok (.dup, 1) := by decide +kernel
theorem d_En_goOn_34 : decode prog_2_method_9_code 34 = .ok (.getfield 103, 3) := by decide +kernel
theorem d_En_goOn_37 : decode prog_2_method_9_code 37 = .ok (.iconst 1, 1) := by decide +kernel
theorem d_En_goOn_38 : decode prog_2_method_9_code 38 = .ok (.iadd, 1) := by decide +kernel
theorem d_En_goOn_39 : decode prog_2_method_9_code 39 = .ok (.putfield 103, 3) := by decide +kernel
theorem d_En_goOn_42 : decode prog_2_method_9_code 42 = .ok (.aload_n 2, 1) := by decide +kernel
theorem d_En_goOn_43 : decode prog_2_method_9_code 43 = .ok (.getfield 103, 3) := by decide +kernel
theorem d_En_goOn_46 : decode prog_2_method_9_code 46 = .ok (.aload_n 2, 1) := by decide +kernel
theorem d_En_goOn_47 : decode prog_2_method_9_code 47 = .ok (.getfield 113, 3) := by decide +kernel
theorem d_En_goOn_50 : decode prog_2_method_9_code 50 = .ok (.if_icmp .ne 52, 3) := by decide +kernel
theorem d_En_goOn_53 : decode prog_2_method_9_code 53 = .ok (.aload_n 2, 1) := by decide +kernel
theorem d_En_goOn_54 : decode prog_2_method_9_code 54 = .ok (.getfield 106, 3) := by decide +kernel
theorem d_En_goOn_57 : decode prog_2_method_9_code 57 = .ok (.aload_n 0, 1) := by decide +kernel
theorem d_En_goOn_58 : decode prog_2_method_9_code 58 = .ok (.getfield 32, 3) := by decide +kernel
theorem d_En_goOn_61 : decode prog_2_method_9_code 61 = .ok (.getfield 93, 3) := by decide +kernel
theorem d_En_goOn_64 : decode prog_2_method_9_code 64 = .ok (.iconst 2, 1) := by decide +kernel
theorem d_En_goOn_65 : decode prog_2_method_9_code 65 = .ok (.iaload, 1) := by decide +kernel
theorem d_En_goOn_66 : decode prog_2_method_9_code 66 = .ok (.if_icmp .ge 23, 3) := by decide +kernel
theorem d_En_goOn_69 : decode prog_2_method_9_code 69 = .ok (.aload_n 0, 1) := by decide +kernel
theorem d_En_goOn_70 : decode prog_2_method_9_code 70 = .ok (.iconst 0, 1) := by decide +kernel
theorem d_En_goOn_71 : decode prog_2_method_9_code 71 = .ok (.iload_n 1, 1) := by decide +kernel
theorem d_En_goOn_72 : decode prog_2_method_9_code 72 = .ok (.bipush (-2), 2) := by decide +kernel
theorem d_En_goOn_74 : decode prog_2_method_9_code 74 = .ok (.aload_n 2, 1) := by decide +kernel
theorem d_En_goOn_75 : decode prog_2_method_9_code 75 = .ok (.getfield 153, 3) := by decide +kernel
theorem d_En_goOn_78 : decode prog_2_method_9_code 78 = .ok (.aload_n 2, 1) := by decide +kernel
theorem d_En_goOn_79 : decode prog_2_method_9_code 79 = .ok (.getfield 156, 3) := by decide +kernel
theorem d_En_goOn_82 : decode prog_2_method_9_code 82 = .ok (.iconst 0, 1) := by decide +kernel
theorem d_En_goOn_83 : decode prog_2_method_9_code 83 = .ok (.invokevirtual 159, 3) := by decide +kernel
theorem d_En_goOn_86 : decode prog_2_method_9_code 86 = .ok (.goto 16, 3) := by decide +kernel
theorem d_En_goOn_89 : decode prog_2_method_9_code 89 = .ok (.aload_n 0, 1) := by decide +kernel
theorem d_En_goOn_90 : decode prog_2_method_9_code 90 = .ok (.getfield 22, 3) := by decide +kernel
theorem d_En_goOn_93 : decode prog_2_method_9_code 93 = .ok (.dup, 1) := by decide +kernel
theorem d_En_goOn_94 : decode prog_2_method_9_code 94 = .ok (.getfield 51, 3) := by decide +kernel
theorem d_En_goOn_97 : decode prog_2_method_9_code 97 = .ok (.iconst 1, 1) := by decide +kernel
theorem d_En_goOn_98 : decode prog_2_method_9_code 98 = .ok (.iadd, 1) := by decide +kernel
theorem d_En_goOn_99 : decode prog_2_method_9_code 99 = .ok (.putfield 51, 3) := by decide +kernel
theorem d_En_goOn_102 : decode prog_2_method_9_code 102 = .ok (.aload_n 2, 1) := by decide +kernel
theorem d_En_goOn_103 : decode prog_2_method_9_code 103 = .ok (.getfield 103, 3) := by decide +kernel
theorem d_En_goOn_106 : decode prog_2_method_9_code 106 = .ok (.aload_n 2, 1) := by decide +kernel
theorem d_En_goOn_107 : decode prog_2_method_9_code 107 = .ok (.getfield 100, 3) := by decide +kernel
theorem d_En_goOn_110 : decode prog_2_method_9_code 110 = .ok (.if_icmp .ne 49, 3) := by decide +kernel
theorem d_En_goOn_113 : decode prog_2_method_9_code 113 = .ok (.aload_n 0, 1) := by decide +kernel
theorem d_En_goOn_114 : decode prog_2_method_9_code 114 = .ok (.getfield 32, 3) := by decide +kernel
theorem d_En_goOn_117 : decode prog_2_method_9_code 117 = .ok (.getfield 93, 3) := by decide +kernel
theorem d_En_goOn_120 : decode prog_2_method_9_code 120 = .ok (.iconst 0, 1) := by decide +kernel
theorem d_En_goOn_121 : decode prog_2_method_9_code 121 = .ok (.iaload, 1) := by decide +kernel
theorem d_En_goOn_122 : decode prog_2_method_9_code 122 = .ok (.aload_n 0, 1) := by decide +kernel
theorem d_En_goOn_123 : decode prog_2_method_9_code 123 = .ok (.getfield 32, 3) := by decide +kernel
theorem d_En_goOn_126 : decode prog_2_method_9_code 126 = .ok (.getfield 93, 3) := by decide +kernel
theorem d_En_goOn_129 : decode prog_2_method_9_code 129 = .ok (.iconst 1, 1) := by decide +kernel
theorem d_En_goOn_130 : decode prog_2_method_9_code 130 = .ok (.iaload, 1) := by decide +kernel
theorem d_En_goOn_131 : decode prog_2_method_9_code 131 = .ok (.ishl, 1) := by decide +kernel
theorem d_En_goOn_132 : decode prog_2_method_9_code 132 = .ok (.istore_n 3, 1) := by decide +kernel
theorem d_En_goOn_133 : decode prog_2_method_9_code 133 = .ok (.aload_n 0, 1) := by decide +kernel
theorem d_En_goOn_134 : decode prog_2_method_9_code 134 = .ok (.iload_n 1, 1) := by decide +kernel
theorem d_En_goOn_135 : decode prog_2_method_9_code 135 = .ok (.aload_n 2, 1) := by decide +kernel
theorem d_En_goOn_136 : decode prog_2_method_9_code 136 = .ok (.getfield 100, 3) := by decide +kernel
theorem d_En_goOn_139 : decode prog_2_method_9_code 139 = .ok (.iload_n 3, 1) := by decide +kernel
theorem d_En_goOn_140 : decode prog_2_method_9_code 140 = .ok (.if_icmp .ge 12, 3) := by decide +kernel
theorem d_En_goOn_143 : decode prog_2_method_9_code 143 = .ok (.iconst 2, 1) := by decide +kernel
theorem d_En_goOn_144 : decode prog_2_method_9_code 144 = .ok (.aload_n 2, 1) := by decide +kernel
theorem d_En_goOn_145 : decode prog_2_method_9_code 145 = .ok (.getfield 100, 3) := by decide +kernel
theorem d_En_goOn_148 : decode prog_2_method_9_code 148 = .ok (.imul, 1) := by decide +kernel
theorem d_En_goOn_149 : decode prog_2_method_9_code 149 = .ok (.goto 7, 3) := by decide +kernel
theorem d_En_goOn_152 : decode prog_2_method_9_code 152 = .ok (.aload_n 2, 1) := by decide +kernel
theorem d_En_goOn_153 : decode prog_2_method_9_code 153 = .ok (.getfield 100, 3) := by decide +kernel
theorem d_En_goOn_156 : decode prog_2_method_9_code 156 = .ok (.invokevirtual 96, 3) := by decide +kernel
theorem d_En_goOn_159 : decode prog_2_method_9_code 159 = .ok (.return_, 1) := by decide +kernel
def wp_En_goOn_b159 (n : Nat)  (Q : sx_M → Prop)  (σ : sx_M) : Prop := Q σ
def wp_En_goOn_b156 (n : Nat)  (Q : sx_M → Prop) (w0n : Nat) (w1 : Int32) (w2 : Int32) (σ : sx_M) : Prop := wp_En_setTimer w0n w1 w2 σ (fun σ1 => wp_En_goOn_b159 n Q σ1)
def wp_En_goOn_b102 (n : Nat)  (Q : sx_M → Prop) (v1 : Int32) (v2n : Nat) (v2p : Nat) (σ : sx_M) : Prop := if σ 27 v2n v2p 8 = σ 27 v2n v2p 7 then (vp_in 0 9 ∧ (vp_in 1 9 ∧ (if (σ 14 0 0 (0 : Int32).toNatClampNeg) <<< ((σ 14 0 0 (1 : Int32).toNatClampNeg) &&& 31) ≤ σ 27 v2n v2p 7 then (wp_En_goOn_b156 n Q n v1 (σ 27 v2n v2p 7) σ) else (wp_En_goOn_b156 n Q n v1 (2 * (σ 27 v2n v2p 7)) σ)))) else (wp_En_goOn_b159 n Q σ)
def wp_En_goOn_b32 (n : Nat)  (Q : sx_M → Prop) (v1 : Int32) (v2n : Nat) (v2p : Nat) (σ : sx_M) : Prop := ∀ σ6 : sx_M, σ6 = sx_u σ 27 v2n v2p 8 ((σ 27 v2n v2p 8) + 1) → (if σ6 27 v2n v2p 8 = σ6 27 v2n v2p 10 then (vp_in 2 9 ∧ (if σ6 14 0 0 (2 : Int32).toNatClampNeg ≤ σ6 27 v2n v2p 9 then (∀ σ10 : sx_M, σ10 = sx_u σ6 16 n 0 7 ((σ6 16 n 0 7) + 1) → (wp_En_goOn_b102 n Q v1 v2n v2p σ10)) else (wp_En_put n (0 : Int32) v1 (-2 : Int32) (σ6 27 v2n v2p 1) (σ6 27 v2n v2p 2) (0 : Int32) σ6 (fun σ11 => wp_En_goOn_b102 n Q v1 v2n v2p σ11)))) else (wp_En_goOn_b102 n Q v1 v2n v2p σ6))
def wp_En_goOn (n : Nat) (x1 : Int32) (σ : sx_M) (Q : sx_M → Prop) : Prop := vp_in x1 7 ∧ (if σ 27 n x1.toNatClampNeg 5 ≤ 0 then (wp_En_goOn_b32 n Q x1 n x1.toNatClampNeg σ) else (∀ σ14 : sx_M, σ14 = sx_u σ 27 n x1.toNatClampNeg 5 ((σ 27 n x1.toNatClampNeg 5) - 1) → (wp_En_choose n x1 σ14 (fun σ15 => wp_En_goOn_b32 n Q x1 n x1.toNatClampNeg σ15))))
abbrev rm_En_goOn : Room := { frames := 4, cells := 0, slots := 0, locals := 96 }
set_option maxRecDepth 100000 in
set_option maxHeartbeats 4000000 in
theorem g_En_goOn_b159 {l : Launch} {K : sx_K} {X : sx_T} {n : Nat}  {Q : sx_M → Prop} (hX : sx_C X K prog_2_method_9_code 4 "SensorTree$Engine" none rm_En_goOn l) (hK : kx_C K) (hE : sx_E X K (sx_Qv K (fun σ _ => Q σ))) (hn : n < 2)  (σ : sx_M) (τ : sx_L)  (h : wp_En_goOn_b159 n Q  σ) : sx_G X K 4 159 [] [] (sx_H K σ τ) := by
  unfold wp_En_goOn_b159 at h
  exact sx_vret hX hE h d_En_goOn_159
set_option maxRecDepth 100000 in
set_option maxHeartbeats 4000000 in
theorem g_En_goOn_b156 {l : Launch} {K : sx_K} {X : sx_T} {n : Nat}  {Q : sx_M → Prop} (hX : sx_C X K prog_2_method_9_code 4 "SensorTree$Engine" none rm_En_goOn l) (hK : kx_C K) (hE : sx_E X K (sx_Qv K (fun σ _ => Q σ))) (hn : n < 2) (w0n : Nat) (w1 : Int32) (w2 : Int32) (σ : sx_M) (τ : sx_L) (hw0n : w0n < 2) (h : wp_En_goOn_b156 n Q  w0n w1 w2 σ) : sx_G X K 4 156 [] [.int w2, .int w1, .ref (K.2.2.1 31 w0n 0)] (sx_H K σ τ) := by
  unfold wp_En_goOn_b156 at h
  refine cl_En_96 (pc2 := 159) hX hK h hw0n ⟨Nat.le_of_ble_eq_true rfl, Nat.le_of_ble_eq_true rfl⟩ (Nat.le_of_ble_eq_true rfl) d_En_goOn_156 rfl (fun σ1 τ1 h => ?_)
  exact g_En_goOn_b159 hX hK hE hn  _ _ h
set_option maxRecDepth 100000 in
set_option maxHeartbeats 4000000 in
theorem g_En_goOn_b102 {l : Launch} {K : sx_K} {X : sx_T} {n : Nat}  {Q : sx_M → Prop} (hX : sx_C X K prog_2_method_9_code 4 "SensorTree$Engine" none rm_En_goOn l) (hK : kx_C K) (hE : sx_E X K (sx_Qv K (fun σ _ => Q σ))) (hn : n < 2) (v1 : Int32) (v2n : Nat) (v2p : Nat) (σ : sx_M) (τ : sx_L) (hv2n : v2n < 25) (hv2p : v2p < 7) (h : wp_En_goOn_b102 n Q  v1 v2n v2p σ) : sx_G X K 4 102 [(0, .ref (K.2.2.1 31 n 0)), (1, .int v1), (2, .ref (K.2.2.1 27 v2n v2p))] [] (sx_H K σ τ) := by
  unfold wp_En_goOn_b102 at h
  refine sx_aload_n (pc2 := 103) hX 2 d_En_goOn_102 rfl rfl rfl ?_
  refine fg_En_103 (pc2 := 106) hX (hK 27 v2n v2p hv2n hv2p) d_En_goOn_103 rfl ?_
  refine sx_aload_n (pc2 := 107) hX 2 d_En_goOn_106 rfl rfl rfl ?_
  refine fg_En_100 (pc2 := 110) hX (hK 27 v2n v2p hv2n hv2p) d_En_goOn_107 rfl ?_
  refine sx_icmp_ne (tgt := 159) (pc2 := 113) hX d_En_goOn_110 (by decide) rfl (fun hc2 => ?_) (fun hc2 => ?_)
  · replace h := sx_f h hc2
    refine sx_sub [] [] rfl ?_
    exact g_En_goOn_b159 hX hK hE hn  _ _ h
  · replace h := sx_t h hc2
    refine sx_aload_n (pc2 := 114) hX 0 d_En_goOn_113 rfl rfl rfl ?_
    refine fg_En_32 (pc2 := 117) hX (hK 31 n 0 hn (by decide)) d_En_goOn_114 rfl ?_
    refine fg_En_93 (pc2 := 120) hX (hK 8 0 0 (by decide) (by decide)) d_En_goOn_117 rfl ?_
    refine sx_iconst (v := 0) (pc2 := 121) hX d_En_goOn_120 (by decide) rfl ?_
    obtain ⟨hc3, h⟩ := h
    refine sx_iald (pc2 := 122) hX (hK 14 0 0 (by decide) (by decide)) rfl hc3 d_En_goOn_121 rfl ?_
    refine sx_aload_n (pc2 := 123) hX 0 d_En_goOn_122 rfl rfl rfl ?_
    refine fg_En_32 (pc2 := 126) hX (hK 31 n 0 hn (by decide)) d_En_goOn_123 rfl ?_
    refine fg_En_93 (pc2 := 129) hX (hK 8 0 0 (by decide) (by decide)) d_En_goOn_126 rfl ?_
    refine sx_iconst (v := 1) (pc2 := 130) hX d_En_goOn_129 (by decide) rfl ?_
    obtain ⟨hc4, h⟩ := h
    refine sx_iald (pc2 := 131) hX (hK 14 0 0 (by decide) (by decide)) rfl hc4 d_En_goOn_130 rfl ?_
    refine sx_ishl (pc2 := 132) hX d_En_goOn_131 rfl ?_
    refine sx_istore_n (pc2 := 133) hX _ [(0, .ref (K.2.2.1 31 n 0)), (1, .int v1), (2, .ref (K.2.2.1 27 v2n v2p)), (3, .int ((σ 14 0 0 (0 : Int32).toNatClampNeg) <<< ((σ 14 0 0 (1 : Int32).toNatClampNeg) &&& 31)))] [1, 2, 3, 0] d_En_goOn_132 rfl (by decide) rfl rfl rfl ?_
    refine sx_aload_n (pc2 := 134) hX 0 d_En_goOn_133 rfl rfl rfl ?_
    refine sx_iload_n (pc2 := 135) hX 1 d_En_goOn_134 rfl rfl rfl ?_
    refine sx_aload_n (pc2 := 136) hX 2 d_En_goOn_135 rfl rfl rfl ?_
    refine fg_En_100 (pc2 := 139) hX (hK 27 v2n v2p hv2n hv2p) d_En_goOn_136 rfl ?_
    refine sx_iload_n (pc2 := 140) hX 3 d_En_goOn_139 rfl rfl rfl ?_
    refine sx_icmp_ge (tgt := 152) (pc2 := 143) hX d_En_goOn_140 (by decide) rfl (fun hc5 => ?_) (fun hc5 => ?_)
    · replace h := sx_t h hc5
      refine sx_aload_n (pc2 := 153) hX 2 d_En_goOn_152 rfl rfl rfl ?_
      refine fg_En_100 (pc2 := 156) hX (hK 27 v2n v2p hv2n hv2p) d_En_goOn_153 rfl ?_
      refine sx_sub [] [] rfl ?_
      exact g_En_goOn_b156 hX hK hE hn  n v1 (σ 27 v2n v2p 7) _ _ hn h
    · replace h := sx_f h hc5
      refine sx_iconst (v := 2) (pc2 := 144) hX d_En_goOn_143 (by decide) rfl ?_
      refine sx_aload_n (pc2 := 145) hX 2 d_En_goOn_144 rfl rfl rfl ?_
      refine fg_En_100 (pc2 := 148) hX (hK 27 v2n v2p hv2n hv2p) d_En_goOn_145 rfl ?_
      refine sx_imul (pc2 := 149) hX d_En_goOn_148 rfl ?_
      refine sx_goto (tgt := 156) hX d_En_goOn_149 (by decide) ?_
      refine sx_sub [] [] rfl ?_
      exact g_En_goOn_b156 hX hK hE hn  n v1 (2 * (σ 27 v2n v2p 7)) _ _ hn h
set_option maxRecDepth 100000 in
set_option maxHeartbeats 4000000 in
theorem g_En_goOn_b32 {l : Launch} {K : sx_K} {X : sx_T} {n : Nat}  {Q : sx_M → Prop} (hX : sx_C X K prog_2_method_9_code 4 "SensorTree$Engine" none rm_En_goOn l) (hK : kx_C K) (hE : sx_E X K (sx_Qv K (fun σ _ => Q σ))) (hn : n < 2) (v1 : Int32) (v2n : Nat) (v2p : Nat) (σ : sx_M) (τ : sx_L) (hv2n : v2n < 25) (hv2p : v2p < 7) (h : wp_En_goOn_b32 n Q  v1 v2n v2p σ) : sx_G X K 4 32 [(0, .ref (K.2.2.1 31 n 0)), (1, .int v1), (2, .ref (K.2.2.1 27 v2n v2p))] [] (sx_H K σ τ) := by
  unfold wp_En_goOn_b32 at h
  refine sx_aload_n (pc2 := 33) hX 2 d_En_goOn_32 rfl rfl rfl ?_
  refine sx_dup (pc2 := 34) hX d_En_goOn_33 rfl rfl ?_
  refine fg_En_103 (pc2 := 37) hX (hK 27 v2n v2p hv2n hv2p) d_En_goOn_34 rfl ?_
  refine sx_iconst (v := 1) (pc2 := 38) hX d_En_goOn_37 (by decide) rfl ?_
  refine sx_iadd (pc2 := 39) hX d_En_goOn_38 rfl ?_
  refine fp_En_103 (pc2 := 42) hX (hK 27 v2n v2p hv2n hv2p) d_En_goOn_39 rfl ?_
  refine sx_nm (fun σ6 e6 => ?_)
  replace h := h σ6 e6
  refine sx_aload_n (pc2 := 43) hX 2 d_En_goOn_42 rfl rfl rfl ?_
  refine fg_En_103 (pc2 := 46) hX (hK 27 v2n v2p hv2n hv2p) d_En_goOn_43 rfl ?_
  refine sx_aload_n (pc2 := 47) hX 2 d_En_goOn_46 rfl rfl rfl ?_
  refine fg_En_113 (pc2 := 50) hX (hK 27 v2n v2p hv2n hv2p) d_En_goOn_47 rfl ?_
  refine sx_icmp_ne (tgt := 102) (pc2 := 53) hX d_En_goOn_50 (by decide) rfl (fun hc7 => ?_) (fun hc7 => ?_)
  · replace h := sx_f h hc7
    exact g_En_goOn_b102 hX hK hE hn  v1 v2n v2p _ _ hv2n hv2p h
  · replace h := sx_t h hc7
    refine sx_aload_n (pc2 := 54) hX 2 d_En_goOn_53 rfl rfl rfl ?_
    refine fg_En_106 (pc2 := 57) hX (hK 27 v2n v2p hv2n hv2p) d_En_goOn_54 rfl ?_
    refine sx_aload_n (pc2 := 58) hX 0 d_En_goOn_57 rfl rfl rfl ?_
    refine fg_En_32 (pc2 := 61) hX (hK 31 n 0 hn (by decide)) d_En_goOn_58 rfl ?_
    refine fg_En_93 (pc2 := 64) hX (hK 8 0 0 (by decide) (by decide)) d_En_goOn_61 rfl ?_
    refine sx_iconst (v := 2) (pc2 := 65) hX d_En_goOn_64 (by decide) rfl ?_
    obtain ⟨hc8, h⟩ := h
    refine sx_iald (pc2 := 66) hX (hK 14 0 0 (by decide) (by decide)) rfl hc8 d_En_goOn_65 rfl ?_
    refine sx_icmp_ge (tgt := 89) (pc2 := 69) hX d_En_goOn_66 (by decide) rfl (fun hc9 => ?_) (fun hc9 => ?_)
    · replace h := sx_t h hc9
      refine sx_aload_n (pc2 := 90) hX 0 d_En_goOn_89 rfl rfl rfl ?_
      refine fg_En_22 (pc2 := 93) hX (hK 31 n 0 hn (by decide)) d_En_goOn_90 rfl ?_
      refine sx_dup (pc2 := 94) hX d_En_goOn_93 rfl rfl ?_
      refine fg_En_51 (pc2 := 97) hX (hK 16 n 0 (sx_w2 hn) (by decide)) d_En_goOn_94 rfl ?_
      refine sx_iconst (v := 1) (pc2 := 98) hX d_En_goOn_97 (by decide) rfl ?_
      refine sx_iadd (pc2 := 99) hX d_En_goOn_98 rfl ?_
      refine fp_En_51 (pc2 := 102) hX (hK 16 n 0 (sx_w2 hn) (by decide)) d_En_goOn_99 rfl ?_
      refine sx_nm (fun σ10 e10 => ?_)
      replace h := h σ10 e10
      exact g_En_goOn_b102 hX hK hE hn  v1 v2n v2p _ _ hv2n hv2p h
    · replace h := sx_f h hc9
      refine sx_aload_n (pc2 := 70) hX 0 d_En_goOn_69 rfl rfl rfl ?_
      refine sx_iconst (v := 0) (pc2 := 71) hX d_En_goOn_70 (by decide) rfl ?_
      refine sx_iload_n (pc2 := 72) hX 1 d_En_goOn_71 rfl rfl rfl ?_
      refine sx_bipush (v := (-2)) (pc2 := 74) hX d_En_goOn_72 (by decide) rfl ?_
      refine sx_aload_n (pc2 := 75) hX 2 d_En_goOn_74 rfl rfl rfl ?_
      refine fg_En_153 (pc2 := 78) hX (hK 27 v2n v2p hv2n hv2p) d_En_goOn_75 rfl ?_
      refine sx_aload_n (pc2 := 79) hX 2 d_En_goOn_78 rfl rfl rfl ?_
      refine fg_En_156 (pc2 := 82) hX (hK 27 v2n v2p hv2n hv2p) d_En_goOn_79 rfl ?_
      refine sx_iconst (v := 0) (pc2 := 83) hX d_En_goOn_82 (by decide) rfl ?_
      refine cl_En_159 (pc2 := 86) hX hK h hn ⟨Nat.le_of_ble_eq_true rfl, Nat.le_of_ble_eq_true rfl⟩ (Nat.le_of_ble_eq_true rfl) d_En_goOn_83 rfl (fun σ11 τ11 h => ?_)
      refine sx_goto (tgt := 102) hX d_En_goOn_86 (by decide) ?_
      exact g_En_goOn_b102 hX hK hE hn  v1 v2n v2p _ _ hv2n hv2p h
set_option maxRecDepth 100000 in
set_option maxHeartbeats 4000000 in
theorem c_En_goOn {l : Launch} {K : sx_K} (hK : kx_C K) (n : Nat) (x1 : Int32) (σ : sx_M) (τ : sx_L) (Q : sx_M → Prop) (hn : n < 2) (h : wp_En_goOn n x1 σ Q) : Met l y_En_goOn (sx_wd y_En_goOn prog_2_method_9_code 4 none) rm_En_goOn (sx_Pc K [.ref (K.2.2.1 31 n 0), .int x1] σ τ) (sx_Qv K (fun σ _ => Q σ)) 0 0 (sx_A K) := by
  refine sx_met (by decide) (Nat.le_of_ble_eq_true rfl) (fun X hX hE => ?_)
  replace hX : sx_C X K prog_2_method_9_code 4 "SensorTree$Engine" none rm_En_goOn l := hX
  show sx_G X K 4 0 [(0, .ref (K.2.2.1 31 n 0)), (1, .int x1)] [] (sx_H K σ τ)
  unfold wp_En_goOn at h
  refine sx_aload_n (pc2 := 1) hX 0 d_En_goOn_0 rfl rfl rfl ?_
  refine fg_En_22 (pc2 := 4) hX (hK 31 n 0 hn (by decide)) d_En_goOn_1 rfl ?_
  refine fg_En_78 (pc2 := 7) hX (hK 16 n 0 (sx_w2 hn) (by decide)) d_En_goOn_4 rfl ?_
  refine sx_iload_n (pc2 := 8) hX 1 d_En_goOn_7 rfl rfl rfl ?_
  obtain ⟨hc12, h⟩ := h
  refine sx_aald (a := K.2.2.1 27 n x1.toNatClampNeg) (pc2 := 9) hX (hK 17 n 0 (sx_w2 hn) (by decide)) 4 rfl rfl rfl hc12 d_En_goOn_8 rfl ?_
  refine sx_astore_n (pc2 := 10) hX _ [(0, .ref (K.2.2.1 31 n 0)), (1, .int x1), (2, .ref (K.2.2.1 27 n x1.toNatClampNeg))] [1, 2, 0] d_En_goOn_9 rfl (by decide) rfl rfl rfl ?_
  refine sx_aload_n (pc2 := 11) hX 2 d_En_goOn_10 rfl rfl rfl ?_
  refine fg_En_147 (pc2 := 14) hX (hK 27 n x1.toNatClampNeg (sx_w2 hn) (sx_lt hc12)) d_En_goOn_11 rfl ?_
  refine sx_if_le (tgt := 32) (pc2 := 17) hX d_En_goOn_14 (by decide) rfl (fun hc13 => ?_) (fun hc13 => ?_)
  · replace h := sx_t h hc13
    exact g_En_goOn_b32 hX hK hE hn  x1 n x1.toNatClampNeg _ _ (sx_w2 hn) (sx_lt hc12) h
  · replace h := sx_f h hc13
    refine sx_aload_n (pc2 := 18) hX 2 d_En_goOn_17 rfl rfl rfl ?_
    refine sx_dup (pc2 := 19) hX d_En_goOn_18 rfl rfl ?_
    refine fg_En_147 (pc2 := 22) hX (hK 27 n x1.toNatClampNeg (sx_w2 hn) (sx_lt hc12)) d_En_goOn_19 rfl ?_
    refine sx_iconst (v := 1) (pc2 := 23) hX d_En_goOn_22 (by decide) rfl ?_
    refine sx_isub (pc2 := 24) hX d_En_goOn_23 rfl ?_
    refine fp_En_147 (pc2 := 27) hX (hK 27 n x1.toNatClampNeg (sx_w2 hn) (sx_lt hc12)) d_En_goOn_24 rfl ?_
    refine sx_nm (fun σ14 e14 => ?_)
    replace h := h σ14 e14
    refine sx_aload_n (pc2 := 28) hX 0 d_En_goOn_27 rfl rfl rfl ?_
    refine sx_iload_n (pc2 := 29) hX 1 d_En_goOn_28 rfl rfl rfl ?_
    refine cl_En_150 (pc2 := 32) hX hK h hn ⟨Nat.le_of_ble_eq_true rfl, Nat.le_of_ble_eq_true rfl⟩ (Nat.le_of_ble_eq_true rfl) d_En_goOn_29 rfl (fun σ15 τ15 h => ?_)
    exact g_En_goOn_b32 hX hK hE hn  x1 n x1.toNatClampNeg _ _ (sx_w2 hn) (sx_lt hc12) h
theorem cl_En_134 {X : sx_T} {K : sx_K} {cc : ByteArray} {nL : Nat} {ret : Option FieldType} {rm : Room} {l : Launch} {pc pc2 : Nat} {lv : List (Nat × Value)} {st : List Value} {σ : sx_M} {τ : sx_L} {n : Nat} {x1 : Int32} {Q : sx_M → Prop} (hX : sx_C X K cc nL "SensorTree$Engine" ret rm l) (hK : kx_C K) (h : wp_En_goOn n x1 σ Q) (hn : n < 2) (hR : rm_En_goOn.frames + 1 ≤ rm.frames ∧ 8 + (4 + 11) + rm_En_goOn.locals ≤ rm.locals) (hst : (st.map fun v => v.category).sum ≤ 8) (hd : decode cc pc = .ok (.invokevirtual 134, 3)) (hpc : pc + 3 = pc2) (kk : ∀ (σ2 : sx_M) (τ2 : sx_L), Q σ2 → sx_G X K nL pc2 lv (st) (sx_H K σ2 τ2)) : sx_G X K nL pc lv (.int x1 :: .ref (K.2.2.1 31 n 0) :: st) (sx_H K σ τ) :=
  sx_callVv (Q := fun σ _ => Q σ) (As := [.int x1]) hX (c_En_goOn hK n x1 σ τ Q hn h) (hK 31 n 0 hn (by decide)) rfl rfl lk_101 ls_27 hy_En_goOn lk_99 lk_27 lk_100 ⟨rfl, rfl⟩ hR hst rfl hd hpc kk
def y_En_isDueToReport : MethodName := ⟨"SensorTree$Engine", "isDueToReport", "(I)Z"⟩
theorem hy_En_isDueToReport : y_En_isDueToReport.cls ≠ "java/lang/invoke/MethodHandle" ∧ y_En_isDueToReport.cls ≠ "java/lang/invoke/VarHandle" ∧ (parseMethodDescriptor y_En_isDueToReport.desc).map (fun d => d.parameters.length) = some 1 := by decide +kernel
theorem d_En_isDueToReport_0 : decode prog_2_method_8_code 0 = .ok (.aload_n 0, 1) := by decide +kernel
theorem d_En_isDueToReport_1 : decode prog_2_method_8_code 1 = .ok (.getfield 32, 3) := by decide +kernel
theorem d_En_isDueToReport_4 : decode prog_2_method_8_code 4 = .ok (.getfield 93, 3) := by decide +kernel
theorem d_En_isDueToReport_7 : decode prog_2_method_8_code 7 = .ok (.bipush 6, 2) := by decide +kernel
theorem d_En_isDueToReport_9 : decode prog_2_method_8_code 9 = .ok (.iaload, 1) := by decide +kernel
theorem d_En_isDueToReport_10 : decode prog_2_method_8_code 10 = .ok (.istore_n 2, 1) := by decide +kernel
theorem d_En_isDueToReport_11 : decode prog_2_method_8_code 11 = .ok (.iload_n 2, 1) := by decide +kernel
theorem d_En_isDueToReport_12 : decode prog_2_method_8_code 12 = .ok (.ifCond .le 22, 3) := by decide +kernel
theorem d_En_isDueToReport_15 : decode prog_2_method_8_code 15 = .ok (.aload_n 0, 1) := by decide +kernel
theorem d_En_isDueToReport_16 : decode prog_2_method_8_code 16 = .ok (.getfield 22, 3) := by decide +kernel
theorem d_En_isDueToReport_19 : decode prog_2_method_8_code 19 = .ok (.getfield 33, 3) := by decide +kernel
theorem d_En_isDueToReport_22 : decode prog_2_method_8_code 22 = .ok (.iload_n 2, 1) := by decide +kernel
theorem d_En_isDueToReport_23 : decode prog_2_method_8_code 23 = .ok (.irem, 1) := by decide +kernel
theorem d_En_isDueToReport_24 : decode prog_2_method_8_code 24 = .ok (.iload_n 1, 1) := by decide +kernel
theorem d_En_isDueToReport_25 : decode prog_2_method_8_code 25 = .ok (.iload_n 2, 1) := by decide +kernel
theorem d_En_isDueToReport_26 : decode prog_2_method_8_code 26 = .ok (.irem, 1) := by decide +kernel
theorem d_En_isDueToReport_27 : decode prog_2_method_8_code 27 = .ok (.if_icmp .ne 7, 3) := by decide +kernel
theorem d_En_isDueToReport_30 : decode prog_2_method_8_code 30 = .ok (.iconst 1, 1) := by decide +kernel
theorem d_En_isDueToReport_31 : decode prog_2_method_8_code 31 = .ok (.goto 4, 3) := by decide +kernel
theorem d_En_isDueToReport_34 : decode prog_2_method_8_code 34 = .ok (.iconst 0, 1) := by decide +kernel
theorem d_En_isDueToReport_35 : decode prog_2_method_8_code 35 = .ok (.ireturn, 1) := by decide +kernel
def wp_En_isDueToReport_b35 (n : Nat)  (Q : Int32 → sx_M → Prop) (w0 : Int32) (σ : sx_M) : Prop := (w0 = 0 ∨ w0 = 1) ∧ (Q w0 σ)
def wp_En_isDueToReport_b34 (n : Nat)  (Q : Int32 → sx_M → Prop)  (σ : sx_M) : Prop := wp_En_isDueToReport_b35 n Q 0 σ
def wp_En_isDueToReport (n : Nat) (x1 : Int32) (σ : sx_M) (Q : Int32 → sx_M → Prop) : Prop := vp_in 6 9 ∧ (if σ 14 0 0 (6 : Int32).toNatClampNeg ≤ 0 then (wp_En_isDueToReport_b34 n Q σ) else (¬ (σ 14 0 0 (6 : Int32).toNatClampNeg) = 0 ∧ (¬ (σ 14 0 0 (6 : Int32).toNatClampNeg) = 0 ∧ (if (σ 16 n 0 1) - (σ 16 n 0 1) / (σ 14 0 0 (6 : Int32).toNatClampNeg) * (σ 14 0 0 (6 : Int32).toNatClampNeg) = x1 - x1 / (σ 14 0 0 (6 : Int32).toNatClampNeg) * (σ 14 0 0 (6 : Int32).toNatClampNeg) then (wp_En_isDueToReport_b35 n Q 1 σ) else (wp_En_isDueToReport_b34 n Q σ)))))
abbrev rm_En_isDueToReport : Room := { frames := 0, cells := 0, slots := 0, locals := 0 }
set_option maxRecDepth 100000 in
set_option maxHeartbeats 4000000 in
theorem g_En_isDueToReport_b35 {l : Launch} {K : sx_K} {X : sx_T} {n : Nat}  {Q : Int32 → sx_M → Prop} (hX : sx_C X K prog_2_method_8_code 3 "SensorTree$Engine" (some .boolean) rm_En_isDueToReport l) (hK : kx_C K) (hE : sx_E X K (sx_Qi K (fun r σ _ => Q r σ))) (hn : n < 2) (w0 : Int32) (σ : sx_M) (τ : sx_L)  (h : wp_En_isDueToReport_b35 n Q  w0 σ) : sx_G X K 3 35 [] [.int w0] (sx_H K σ τ) := by
  unfold wp_En_isDueToReport_b35 at h
  obtain ⟨hc1, h⟩ := h
  exact sx_zret hX hE hc1 h d_En_isDueToReport_35
set_option maxRecDepth 100000 in
set_option maxHeartbeats 4000000 in
theorem g_En_isDueToReport_b34 {l : Launch} {K : sx_K} {X : sx_T} {n : Nat}  {Q : Int32 → sx_M → Prop} (hX : sx_C X K prog_2_method_8_code 3 "SensorTree$Engine" (some .boolean) rm_En_isDueToReport l) (hK : kx_C K) (hE : sx_E X K (sx_Qi K (fun r σ _ => Q r σ))) (hn : n < 2)  (σ : sx_M) (τ : sx_L)  (h : wp_En_isDueToReport_b34 n Q  σ) : sx_G X K 3 34 [] [] (sx_H K σ τ) := by
  unfold wp_En_isDueToReport_b34 at h
  refine sx_iconst (v := 0) (pc2 := 35) hX d_En_isDueToReport_34 (by decide) rfl ?_
  exact g_En_isDueToReport_b35 hX hK hE hn  0 _ _ h
set_option maxRecDepth 100000 in
set_option maxHeartbeats 4000000 in
theorem c_En_isDueToReport {l : Launch} {K : sx_K} (hK : kx_C K) (n : Nat) (x1 : Int32) (σ : sx_M) (τ : sx_L) (Q : Int32 → sx_M → Prop) (hn : n < 2) (h : wp_En_isDueToReport n x1 σ Q) : Met l y_En_isDueToReport (sx_wd y_En_isDueToReport prog_2_method_8_code 3 (some .boolean)) rm_En_isDueToReport (sx_Pc K [.ref (K.2.2.1 31 n 0), .int x1] σ τ) (sx_Qi K (fun r σ _ => Q r σ)) 0 0 (sx_A K) := by
  refine sx_met (by decide) (Nat.le_of_ble_eq_true rfl) (fun X hX hE => ?_)
  replace hX : sx_C X K prog_2_method_8_code 3 "SensorTree$Engine" (some .boolean) rm_En_isDueToReport l := hX
  show sx_G X K 3 0 [(0, .ref (K.2.2.1 31 n 0)), (1, .int x1)] [] (sx_H K σ τ)
  unfold wp_En_isDueToReport at h
  refine sx_aload_n (pc2 := 1) hX 0 d_En_isDueToReport_0 rfl rfl rfl ?_
  refine fg_En_32 (pc2 := 4) hX (hK 31 n 0 hn (by decide)) d_En_isDueToReport_1 rfl ?_
  refine fg_En_93 (pc2 := 7) hX (hK 8 0 0 (by decide) (by decide)) d_En_isDueToReport_4 rfl ?_
  refine sx_bipush (v := 6) (pc2 := 9) hX d_En_isDueToReport_7 (by decide) rfl ?_
  obtain ⟨hc2, h⟩ := h
  refine sx_iald (pc2 := 10) hX (hK 14 0 0 (by decide) (by decide)) rfl hc2 d_En_isDueToReport_9 rfl ?_
  refine sx_istore_n (pc2 := 11) hX _ [(0, .ref (K.2.2.1 31 n 0)), (1, .int x1), (2, .int (σ 14 0 0 (6 : Int32).toNatClampNeg))] [1, 2, 0] d_En_isDueToReport_10 rfl (by decide) rfl rfl rfl ?_
  refine sx_iload_n (pc2 := 12) hX 2 d_En_isDueToReport_11 rfl rfl rfl ?_
  refine sx_if_le (tgt := 34) (pc2 := 15) hX d_En_isDueToReport_12 (by decide) rfl (fun hc3 => ?_) (fun hc3 => ?_)
  · replace h := sx_t h hc3
    refine sx_sub [] [] rfl ?_
    exact g_En_isDueToReport_b34 hX hK hE hn  _ _ h
  · replace h := sx_f h hc3
    refine sx_aload_n (pc2 := 16) hX 0 d_En_isDueToReport_15 rfl rfl rfl ?_
    refine fg_En_22 (pc2 := 19) hX (hK 31 n 0 hn (by decide)) d_En_isDueToReport_16 rfl ?_
    refine fg_En_33 (pc2 := 22) hX (hK 16 n 0 (sx_w2 hn) (by decide)) d_En_isDueToReport_19 rfl ?_
    refine sx_iload_n (pc2 := 23) hX 2 d_En_isDueToReport_22 rfl rfl rfl ?_
    obtain ⟨hc4, h⟩ := h
    refine sx_irem (pc2 := 24) hX d_En_isDueToReport_23 hc4 rfl ?_
    refine sx_iload_n (pc2 := 25) hX 1 d_En_isDueToReport_24 rfl rfl rfl ?_
    refine sx_iload_n (pc2 := 26) hX 2 d_En_isDueToReport_25 rfl rfl rfl ?_
    obtain ⟨hc5, h⟩ := h
    refine sx_irem (pc2 := 27) hX d_En_isDueToReport_26 hc5 rfl ?_
    refine sx_icmp_ne (tgt := 34) (pc2 := 30) hX d_En_isDueToReport_27 (by decide) rfl (fun hc6 => ?_) (fun hc6 => ?_)
    · replace h := sx_f h hc6
      refine sx_sub [] [] rfl ?_
      exact g_En_isDueToReport_b34 hX hK hE hn  _ _ h
    · replace h := sx_t h hc6
      refine sx_iconst (v := 1) (pc2 := 31) hX d_En_isDueToReport_30 (by decide) rfl ?_
      refine sx_goto (tgt := 35) hX d_En_isDueToReport_31 (by decide) ?_
      refine sx_sub [] [] rfl ?_
      exact g_En_isDueToReport_b35 hX hK hE hn  1 _ _ h
theorem cl_En_140 {X : sx_T} {K : sx_K} {cc : ByteArray} {nL : Nat} {ret : Option FieldType} {rm : Room} {l : Launch} {pc pc2 : Nat} {lv : List (Nat × Value)} {st : List Value} {σ : sx_M} {τ : sx_L} {n : Nat} {x1 : Int32} {Q : Int32 → sx_M → Prop} (hX : sx_C X K cc nL "SensorTree$Engine" ret rm l) (hK : kx_C K) (h : wp_En_isDueToReport n x1 σ Q) (hn : n < 2) (hR : rm_En_isDueToReport.frames + 1 ≤ rm.frames ∧ 8 + (3 + 11) + rm_En_isDueToReport.locals ≤ rm.locals) (hst : (st.map fun v => v.category).sum ≤ 8) (hd : decode cc pc = .ok (.invokevirtual 140, 3)) (hpc : pc + 3 = pc2) (kk : ∀ (r : Int32) (σ2 : sx_M) (τ2 : sx_L), Q r σ2 → sx_G X K nL pc2 lv (.int r :: st) (sx_H K σ2 τ2)) : sx_G X K nL pc lv (.int x1 :: .ref (K.2.2.1 31 n 0) :: st) (sx_H K σ τ) :=
  sx_callVi (Q := fun r σ _ => Q r σ) (As := [.int x1]) hX (c_En_isDueToReport hK n x1 σ τ Q hn h) (hK 31 n 0 hn (by decide)) rfl rfl lk_98 ls_28 hy_En_isDueToReport lk_96 lk_27 lk_97 ⟨rfl, rfl⟩ hR hst rfl hd hpc kk
def y_En_passTick : MethodName := ⟨"SensorTree$Engine", "passTick", "()V"⟩
theorem hy_En_passTick : y_En_passTick.cls ≠ "java/lang/invoke/MethodHandle" ∧ y_En_passTick.cls ≠ "java/lang/invoke/VarHandle" ∧ (parseMethodDescriptor y_En_passTick.desc).map (fun d => d.parameters.length) = some 0 := by decide +kernel
theorem d_En_passTick_0 : decode prog_2_method_7_code 0 = .ok (.aload_n 0, 1) := by decide +kernel
theorem d_En_passTick_1 : decode prog_2_method_7_code 1 = .ok (.getfield 12, 3) := by decide +kernel
theorem d_En_passTick_4 : decode prog_2_method_7_code 4 = .ok (.aload_n 0, 1) := by decide +kernel
theorem d_En_passTick_5 : decode prog_2_method_7_code 5 = .ok (.getfield 22, 3) := by decide +kernel
theorem d_En_passTick_8 : decode prog_2_method_7_code 8 = .ok (.getfield 54, 3) := by decide +kernel
theorem d_En_passTick_11 : decode prog_2_method_7_code 11 = .ok (.invokevirtual 117, 3) := by decide +kernel
theorem d_En_passTick_14 : decode prog_2_method_7_code 14 = .ok (.aload_n 0, 1) := by decide +kernel
theorem d_En_passTick_15 : decode prog_2_method_7_code 15 = .ok (.getfield 22, 3) := by decide +kernel
theorem d_En_passTick_18 : decode prog_2_method_7_code 18 = .ok (.getfield 54, 3) := by decide +kernel
theorem d_En_passTick_21 : decode prog_2_method_7_code 21 = .ok (.iconst 0, 1) := by decide +kernel
theorem d_En_passTick_22 : decode prog_2_method_7_code 22 = .ok (.putfield 57, 3) := by decide +kernel
theorem d_En_passTick_25 : decode prog_2_method_7_code 25 = .ok (.iconst 0, 1) := by decide +kernel
theorem d_En_passTick_26 : decode prog_2_method_7_code 26 = .ok (.istore_n 1, 1) := by decide +kernel
theorem d_En_passTick_27 : decode prog_2_method_7_code 27 = .ok (.iload_n 1, 1) := by decide +kernel
theorem d_En_passTick_28 : decode prog_2_method_7_code 28 = .ok (.aload_n 0, 1) := by decide +kernel
theorem d_En_passTick_29 : decode prog_2_method_7_code 29 = .ok (.getfield 12, 3) := by decide +kernel
theorem d_En_passTick_32 : decode prog_2_method_7_code 32 = .ok (.getfield 57, 3) := by decide +kernel
theorem d_En_passTick_35 : decode prog_2_method_7_code 35 = .ok (.if_icmp .ge 34, 3) := by decide +kernel
theorem d_En_passTick_38 : decode prog_2_method_7_code 38 = .ok (.aload_n 0, 1) := by decide +kernel
theorem d_En_passTick_39 : decode prog_2_method_7_code 39 = .ok (.getfield 12, 3) := by decide +kernel
theorem d_En_passTick_42 : decode prog_2_method_7_code 42 = .ok (.getfield 121, 3) := by decide +kernel
theorem d_En_passTick_45 : decode prog_2_method_7_code 45 = .ok (.iload_n 1, 1) := by decide +kernel
theorem d_En_passTick_46 : decode prog_2_method_7_code 46 = .ok (.iaload, 1) := by decide +kernel
theorem d_En_passTick_47 : decode prog_2_method_7_code 47 = .ok (.ifCond .ne 11, 3) := by decide +kernel
theorem d_En_passTick_50 : decode prog_2_method_7_code 50 = .ok (.aload_n 0, 1) := by decide +kernel
theorem d_En_passTick_51 : decode prog_2_method_7_code 51 = .ok (.iload_n 1, 1) := by decide +kernel
theorem d_En_passTick_52 : decode prog_2_method_7_code 52 = .ok (.invokevirtual 124, 3) := by decide +kernel
theorem d_En_passTick_55 : decode prog_2_method_7_code 55 = .ok (.goto 8, 3) := by decide +kernel
theorem d_En_passTick_58 : decode prog_2_method_7_code 58 = .ok (.aload_n 0, 1) := by decide +kernel
theorem d_En_passTick_59 : decode prog_2_method_7_code 59 = .ok (.iload_n 1, 1) := by decide +kernel
theorem d_En_passTick_60 : decode prog_2_method_7_code 60 = .ok (.invokevirtual 127, 3) := by decide +kernel
theorem d_En_passTick_63 : decode prog_2_method_7_code 63 = .ok (.iinc 1 1, 3) := by decide +kernel
theorem d_En_passTick_66 : decode prog_2_method_7_code 66 = .ok (.goto (-39), 3) := by decide +kernel
theorem d_En_passTick_69 : decode prog_2_method_7_code 69 = .ok (.iconst 0, 1) := by decide +kernel
theorem d_En_passTick_70 : decode prog_2_method_7_code 70 = .ok (.istore_n 1, 1) := by decide +kernel
theorem d_En_passTick_71 : decode prog_2_method_7_code 71 = .ok (.iload_n 1, 1) := by decide +kernel
theorem d_En_passTick_72 : decode prog_2_method_7_code 72 = .ok (.aload_n 0, 1) := by decide +kernel
theorem d_En_passTick_73 : decode prog_2_method_7_code 73 = .ok (.getfield 32, 3) := by decide +kernel
theorem d_En_passTick_76 : decode prog_2_method_7_code 76 = .ok (.getfield 75, 3) := by decide +kernel
theorem d_En_passTick_79 : decode prog_2_method_7_code 79 = .ok (.if_icmp .ge 29, 3) := by decide +kernel
theorem d_En_passTick_82 : decode prog_2_method_7_code 82 = .ok (.aload_n 0, 1) := by decide +kernel
theorem d_En_passTick_83 : decode prog_2_method_7_code 83 = .ok (.getfield 22, 3) := by decide +kernel
theorem d_En_passTick_86 : decode prog_2_method_7_code 86 = .ok (.getfield 78, 3) := by decide +kernel
theorem d_En_passTick_89 : decode prog_2_method_7_code 89 = .ok (.iload_n 1, 1) := by decide +kernel
theorem d_En_passTick_90 : decode prog_2_method_7_code 90 = .ok (.aaload, 1) := by decide +kernel
theorem d_En_passTick_91 : decode prog_2_method_7_code 91 = .ok (.getfield 130, 3) := by decide +kernel
theorem d_En_passTick_94 : decode prog_2_method_7_code 94 = .ok (.ifCond .eq 8, 3) := by decide +kernel
theorem d_En_passTick_97 : decode prog_2_method_7_code 97 = .ok (.aload_n 0, 1) := by decide +kernel
theorem d_En_passTick_98 : decode prog_2_method_7_code 98 = .ok (.iload_n 1, 1) := by decide +kernel
theorem d_En_passTick_99 : decode prog_2_method_7_code 99 = .ok (.invokevirtual 134, 3) := by decide +kernel
theorem d_En_passTick_102 : decode prog_2_method_7_code 102 = .ok (.iinc 1 1, 3) := by decide +kernel
theorem d_En_passTick_105 : decode prog_2_method_7_code 105 = .ok (.goto (-34), 3) := by decide +kernel
theorem d_En_passTick_108 : decode prog_2_method_7_code 108 = .ok (.iconst 0, 1) := by decide +kernel
theorem d_En_passTick_109 : decode prog_2_method_7_code 109 = .ok (.istore_n 1, 1) := by decide +kernel
theorem d_En_passTick_110 : decode prog_2_method_7_code 110 = .ok (.iload_n 1, 1) := by decide +kernel
theorem d_En_passTick_111 : decode prog_2_method_7_code 111 = .ok (.aload_n 0, 1) := by decide +kernel
theorem d_En_passTick_112 : decode prog_2_method_7_code 112 = .ok (.getfield 32, 3) := by decide +kernel
theorem d_En_passTick_115 : decode prog_2_method_7_code 115 = .ok (.getfield 75, 3) := by decide +kernel
theorem d_En_passTick_118 : decode prog_2_method_7_code 118 = .ok (.if_icmp .ge 48, 3) := by decide +kernel
theorem d_En_passTick_121 : decode prog_2_method_7_code 121 = .ok (.aload_n 0, 1) := by decide +kernel
theorem d_En_passTick_122 : decode prog_2_method_7_code 122 = .ok (.getfield 22, 3) := by decide +kernel
theorem d_En_passTick_125 : decode prog_2_method_7_code 125 = .ok (.getfield 78, 3) := by decide +kernel
theorem d_En_passTick_128 : decode prog_2_method_7_code 128 = .ok (.iload_n 1, 1) := by decide +kernel
theorem d_En_passTick_129 : decode prog_2_method_7_code 129 = .ok (.aaload, 1) := by decide +kernel
theorem d_En_passTick_130 : decode prog_2_method_7_code 130 = .ok (.astore_n 2, 1) := by decide +kernel
theorem d_En_passTick_131 : decode prog_2_method_7_code 131 = .ok (.aload_n 2, 1) := by decide +kernel
theorem d_En_passTick_132 : decode prog_2_method_7_code 132 = .ok (.getfield 130, 3) := by decide +kernel
theorem d_En_passTick_135 : decode prog_2_method_7_code 135 = .ok (.ifCond .eq 25, 3) := by decide +kernel
theorem d_En_passTick_138 : decode prog_2_method_7_code 138 = .ok (.aload_n 2, 1) := by decide +kernel
theorem d_En_passTick_139 : decode prog_2_method_7_code 139 = .ok (.getfield 137, 3) := by decide +kernel
theorem d_En_passTick_142 : decode prog_2_method_7_code 142 = .ok (.bipush (-2), 2) := by decide +kernel
theorem d_En_passTick_144 : decode prog_2_method_7_code 144 = .ok (.if_icmp .eq 16, 3) := by decide +kernel
theorem d_En_passTick_147 : decode prog_2_method_7_code 147 = .ok (.aload_n 0, 1) := by decide +kernel
theorem d_En_passTick_148 : decode prog_2_method_7_code 148 = .ok (.iload_n 1, 1) := by decide +kernel
theorem d_En_passTick_149 : decode prog_2_method_7_code 149 = .ok (.invokevirtual 140, 3) := by decide +kernel
theorem d_En_passTick_152 : decode prog_2_method_7_code 152 = .ok (.ifCond .eq 8, 3) := by decide +kernel
theorem d_En_passTick_155 : decode prog_2_method_7_code 155 = .ok (.aload_n 0, 1) := by decide +kernel
theorem d_En_passTick_156 : decode prog_2_method_7_code 156 = .ok (.iload_n 1, 1) := by decide +kernel
theorem d_En_passTick_157 : decode prog_2_method_7_code 157 = .ok (.invokevirtual 144, 3) := by decide +kernel
theorem d_En_passTick_160 : decode prog_2_method_7_code 160 = .ok (.iinc 1 1, 3) := by decide +kernel
theorem d_En_passTick_163 : decode prog_2_method_7_code 163 = .ok (.goto (-53), 3) := by decide +kernel
theorem d_En_passTick_166 : decode prog_2_method_7_code 166 = .ok (.aload_n 0, 1) := by decide +kernel
theorem d_En_passTick_167 : decode prog_2_method_7_code 167 = .ok (.getfield 22, 3) := by decide +kernel
theorem d_En_passTick_170 : decode prog_2_method_7_code 170 = .ok (.dup, 1) := by decide +kernel
theorem d_En_passTick_171 : decode prog_2_method_7_code 171 = .ok (.getfield 33, 3) := by decide +kernel
theorem d_En_passTick_174 : decode prog_2_method_7_code 174 = .ok (.iconst 1, 1) := by decide +kernel
theorem d_En_passTick_175 : decode prog_2_method_7_code 175 = .ok (.iadd, 1) := by decide +kernel
theorem d_En_passTick_176 : decode prog_2_method_7_code 176 = .ok (.putfield 33, 3) := by decide +kernel
theorem d_En_passTick_179 : decode prog_2_method_7_code 179 = .ok (.return_, 1) := by decide +kernel
def wp_En_passTick_b160 (n : Nat) (k110 : Int32 → sx_M → Prop) (Q : sx_M → Prop) (v1 : Int32) (σ : sx_M) : Prop := k110 (v1 + 1) σ
def wp_En_passTick_b110 (n : Nat)  (Q : sx_M → Prop) : Nat → Int32 → sx_M → Prop
  | 0, _, _ => False
  | f + 1, v1, σ => if σ 8 0 0 0 ≤ v1 then (∀ σ2 : sx_M, σ2 = sx_u σ 16 n 0 1 ((σ 16 n 0 1) + 1) → (Q σ2)) else (vp_in v1 7 ∧ (if σ 27 n v1.toNatClampNeg 0 = 0 then (wp_En_passTick_b160 n (wp_En_passTick_b110 n Q f) Q v1 σ) else (if σ 27 n v1.toNatClampNeg 3 = (-2) then (wp_En_passTick_b160 n (wp_En_passTick_b110 n Q f) Q v1 σ) else (wp_En_isDueToReport n v1 σ (fun r6 σ6 => if r6 = 0 then (wp_En_passTick_b160 n (wp_En_passTick_b110 n Q f) Q v1 σ6) else (wp_En_report n v1 σ6 (fun σ8 => wp_En_passTick_b160 n (wp_En_passTick_b110 n Q f) Q v1 σ8)))))))
def wp_En_passTick_b102 (n : Nat) (k71 : Int32 → sx_M → Prop) (Q : sx_M → Prop) (v1 : Int32) (σ : sx_M) : Prop := k71 (v1 + 1) σ
def wp_En_passTick_b71 (n : Nat)  (Q : sx_M → Prop) : Nat → Int32 → sx_M → Prop
  | 0, _, _ => False
  | f + 1, v1, σ => if σ 8 0 0 0 ≤ v1 then (∃ f110, wp_En_passTick_b110 n Q f110 0 σ) else (vp_in v1 7 ∧ (if σ 27 n v1.toNatClampNeg 0 = 0 then (wp_En_passTick_b102 n (wp_En_passTick_b71 n Q f) Q v1 σ) else (wp_En_goOn n v1 σ (fun σ12 => wp_En_passTick_b102 n (wp_En_passTick_b71 n Q f) Q v1 σ12))))
def wp_En_passTick_b63 (n : Nat) (k27 : Int32 → sx_M → Prop) (Q : sx_M → Prop) (v1 : Int32) (σ : sx_M) : Prop := k27 (v1 + 1) σ
def wp_En_passTick_b27 (n : Nat)  (Q : sx_M → Prop) : Nat → Int32 → sx_M → Prop
  | 0, _, _ => False
  | f + 1, v1, σ => if σ 20 (25 + n) 0 0 ≤ v1 then (∃ f71, wp_En_passTick_b71 n Q f71 0 σ) else (vp_in v1 200 ∧ (if σ 21 (25 + n) 0 v1.toNatClampNeg = 0 then (wp_En_advertComes n v1 σ (fun σ17 => wp_En_passTick_b63 n (wp_En_passTick_b27 n Q f) Q v1 σ17)) else (wp_En_wordComes n v1 σ (fun σ16 => wp_En_passTick_b63 n (wp_En_passTick_b27 n Q f) Q v1 σ16))))
def wp_En_passTick (n : Nat) (σ : sx_M) (Q : sx_M → Prop) : Prop := wp_Ma_copyFrom (25 + n) n σ (fun σ18 => ∀ σ19 : sx_M, σ19 = sx_u σ18 20 n 0 0 0 → (∃ f27, wp_En_passTick_b27 n Q f27 0 σ19))
abbrev rm_En_passTick : Room := { frames := 5, cells := 0, slots := 0, locals := 119 }
set_option maxRecDepth 100000 in
set_option maxHeartbeats 4000000 in
theorem g_En_passTick_b160 {l : Launch} {K : sx_K} {X : sx_T} {n : Nat} {k110 : Int32 → sx_M → Prop} {Q : sx_M → Prop} (hX : sx_C X K prog_2_method_7_code 3 "SensorTree$Engine" none rm_En_passTick l) (hK : kx_C K) (hE : sx_E X K (sx_Qv K (fun σ _ => Q σ))) (hn : n < 2) (hk110 : ∀ (v1 : Int32) (σ : sx_M) (τ : sx_L) , k110 v1 σ → sx_G X K 3 110 [(0, .ref (K.2.2.1 31 n 0)), (1, .int v1)] [] (sx_H K σ τ)) (v1 : Int32) (σ : sx_M) (τ : sx_L)  (h : wp_En_passTick_b160 n k110 Q  v1 σ) : sx_G X K 3 160 [(0, .ref (K.2.2.1 31 n 0)), (1, .int v1)] [] (sx_H K σ τ) := by
  unfold wp_En_passTick_b160 at h
  refine sx_iinc (pc2 := 163) hX 1 _ [(0, .ref (K.2.2.1 31 n 0)), (1, .int (v1 + 1))] [1, 0] d_En_passTick_160 rfl (v1 + 1) rfl (by decide) rfl rfl rfl ?_
  refine sx_goto (tgt := 110) hX d_En_passTick_163 (by decide) ?_
  exact hk110 (v1 + 1) _ _ h
set_option maxRecDepth 100000 in
set_option maxHeartbeats 4000000 in
theorem g_En_passTick_b110 {l : Launch} {K : sx_K} {X : sx_T} {n : Nat}  {Q : sx_M → Prop} (hX : sx_C X K prog_2_method_7_code 3 "SensorTree$Engine" none rm_En_passTick l) (hK : kx_C K) (hE : sx_E X K (sx_Qv K (fun σ _ => Q σ))) (hn : n < 2) : ∀ (f : Nat) (v1 : Int32) (σ : sx_M) (τ : sx_L) , wp_En_passTick_b110 n Q f v1 σ → sx_G X K 3 110 [(0, .ref (K.2.2.1 31 n 0)), (1, .int v1)] [] (sx_H K σ τ) := by
  intro f
  induction f with
  | zero => intro v1 σ τ h; exact (show False from h).elim
  | succ f ih =>
    intro v1 σ τ h
    rw [wp_En_passTick_b110] at h
    refine sx_iload_n (pc2 := 111) hX 1 d_En_passTick_110 rfl rfl rfl ?_
    refine sx_aload_n (pc2 := 112) hX 0 d_En_passTick_111 rfl rfl rfl ?_
    refine fg_En_32 (pc2 := 115) hX (hK 31 n 0 hn (by decide)) d_En_passTick_112 rfl ?_
    refine fg_En_75 (pc2 := 118) hX (hK 8 0 0 (by decide) (by decide)) d_En_passTick_115 rfl ?_
    refine sx_icmp_ge (tgt := 166) (pc2 := 121) hX d_En_passTick_118 (by decide) rfl (fun hc1 => ?_) (fun hc1 => ?_)
    · replace h := sx_t h hc1
      refine sx_aload_n (pc2 := 167) hX 0 d_En_passTick_166 rfl rfl rfl ?_
      refine fg_En_22 (pc2 := 170) hX (hK 31 n 0 hn (by decide)) d_En_passTick_167 rfl ?_
      refine sx_dup (pc2 := 171) hX d_En_passTick_170 rfl rfl ?_
      refine fg_En_33 (pc2 := 174) hX (hK 16 n 0 (sx_w2 hn) (by decide)) d_En_passTick_171 rfl ?_
      refine sx_iconst (v := 1) (pc2 := 175) hX d_En_passTick_174 (by decide) rfl ?_
      refine sx_iadd (pc2 := 176) hX d_En_passTick_175 rfl ?_
      refine fp_En_33 (pc2 := 179) hX (hK 16 n 0 (sx_w2 hn) (by decide)) d_En_passTick_176 rfl ?_
      refine sx_nm (fun σ2 e2 => ?_)
      replace h := h σ2 e2
      exact sx_vret hX hE h d_En_passTick_179
    · replace h := sx_f h hc1
      refine sx_aload_n (pc2 := 122) hX 0 d_En_passTick_121 rfl rfl rfl ?_
      refine fg_En_22 (pc2 := 125) hX (hK 31 n 0 hn (by decide)) d_En_passTick_122 rfl ?_
      refine fg_En_78 (pc2 := 128) hX (hK 16 n 0 (sx_w2 hn) (by decide)) d_En_passTick_125 rfl ?_
      refine sx_iload_n (pc2 := 129) hX 1 d_En_passTick_128 rfl rfl rfl ?_
      obtain ⟨hc3, h⟩ := h
      refine sx_aald (a := K.2.2.1 27 n v1.toNatClampNeg) (pc2 := 130) hX (hK 17 n 0 (sx_w2 hn) (by decide)) 4 rfl rfl rfl hc3 d_En_passTick_129 rfl ?_
      refine sx_astore_n (pc2 := 131) hX _ [(0, .ref (K.2.2.1 31 n 0)), (1, .int v1), (2, .ref (K.2.2.1 27 n v1.toNatClampNeg))] [1, 2, 0] d_En_passTick_130 rfl (by decide) rfl rfl rfl ?_
      refine sx_aload_n (pc2 := 132) hX 2 d_En_passTick_131 rfl rfl rfl ?_
      refine fg_En_130 (pc2 := 135) hX (hK 27 n v1.toNatClampNeg (sx_w2 hn) (sx_lt hc3)) d_En_passTick_132 rfl ?_
      refine sx_if_eq (tgt := 160) (pc2 := 138) hX d_En_passTick_135 (by decide) rfl (fun hc4 => ?_) (fun hc4 => ?_)
      · replace h := sx_t h hc4
        refine sx_sub [(0, .ref (K.2.2.1 31 n 0)), (1, .int v1)] [0, 1] rfl ?_
        exact g_En_passTick_b160 hX hK hE hn ih v1 _ _ h
      · replace h := sx_f h hc4
        refine sx_aload_n (pc2 := 139) hX 2 d_En_passTick_138 rfl rfl rfl ?_
        refine fg_En_137 (pc2 := 142) hX (hK 27 n v1.toNatClampNeg (sx_w2 hn) (sx_lt hc3)) d_En_passTick_139 rfl ?_
        refine sx_bipush (v := (-2)) (pc2 := 144) hX d_En_passTick_142 (by decide) rfl ?_
        refine sx_icmp_eq (tgt := 160) (pc2 := 147) hX d_En_passTick_144 (by decide) rfl (fun hc5 => ?_) (fun hc5 => ?_)
        · replace h := sx_t h hc5
          refine sx_sub [(0, .ref (K.2.2.1 31 n 0)), (1, .int v1)] [0, 1] rfl ?_
          exact g_En_passTick_b160 hX hK hE hn ih v1 _ _ h
        · replace h := sx_f h hc5
          refine sx_aload_n (pc2 := 148) hX 0 d_En_passTick_147 rfl rfl rfl ?_
          refine sx_iload_n (pc2 := 149) hX 1 d_En_passTick_148 rfl rfl rfl ?_
          refine cl_En_140 (pc2 := 152) hX hK h hn ⟨Nat.le_of_ble_eq_true rfl, Nat.le_of_ble_eq_true rfl⟩ (Nat.le_of_ble_eq_true rfl) d_En_passTick_149 rfl (fun r6 σ6 τ6 h => ?_)
          refine sx_if_eq (tgt := 160) (pc2 := 155) hX d_En_passTick_152 (by decide) rfl (fun hc7 => ?_) (fun hc7 => ?_)
          · replace h := sx_t h hc7
            refine sx_sub [(0, .ref (K.2.2.1 31 n 0)), (1, .int v1)] [0, 1] rfl ?_
            exact g_En_passTick_b160 hX hK hE hn ih v1 _ _ h
          · replace h := sx_f h hc7
            refine sx_aload_n (pc2 := 156) hX 0 d_En_passTick_155 rfl rfl rfl ?_
            refine sx_iload_n (pc2 := 157) hX 1 d_En_passTick_156 rfl rfl rfl ?_
            refine cl_En_144 (pc2 := 160) hX hK h hn ⟨Nat.le_of_ble_eq_true rfl, Nat.le_of_ble_eq_true rfl⟩ (Nat.le_of_ble_eq_true rfl) d_En_passTick_157 rfl (fun σ8 τ8 h => ?_)
            refine sx_sub [(0, .ref (K.2.2.1 31 n 0)), (1, .int v1)] [0, 1] rfl ?_
            exact g_En_passTick_b160 hX hK hE hn ih v1 _ _ h
set_option maxRecDepth 100000 in
set_option maxHeartbeats 4000000 in
theorem g_En_passTick_b102 {l : Launch} {K : sx_K} {X : sx_T} {n : Nat} {k71 : Int32 → sx_M → Prop} {Q : sx_M → Prop} (hX : sx_C X K prog_2_method_7_code 3 "SensorTree$Engine" none rm_En_passTick l) (hK : kx_C K) (hE : sx_E X K (sx_Qv K (fun σ _ => Q σ))) (hn : n < 2) (hk71 : ∀ (v1 : Int32) (σ : sx_M) (τ : sx_L) , k71 v1 σ → sx_G X K 3 71 [(0, .ref (K.2.2.1 31 n 0)), (1, .int v1)] [] (sx_H K σ τ)) (v1 : Int32) (σ : sx_M) (τ : sx_L)  (h : wp_En_passTick_b102 n k71 Q  v1 σ) : sx_G X K 3 102 [(0, .ref (K.2.2.1 31 n 0)), (1, .int v1)] [] (sx_H K σ τ) := by
  unfold wp_En_passTick_b102 at h
  refine sx_iinc (pc2 := 105) hX 1 _ [(0, .ref (K.2.2.1 31 n 0)), (1, .int (v1 + 1))] [1, 0] d_En_passTick_102 rfl (v1 + 1) rfl (by decide) rfl rfl rfl ?_
  refine sx_goto (tgt := 71) hX d_En_passTick_105 (by decide) ?_
  exact hk71 (v1 + 1) _ _ h
set_option maxRecDepth 100000 in
set_option maxHeartbeats 4000000 in
theorem g_En_passTick_b71 {l : Launch} {K : sx_K} {X : sx_T} {n : Nat}  {Q : sx_M → Prop} (hX : sx_C X K prog_2_method_7_code 3 "SensorTree$Engine" none rm_En_passTick l) (hK : kx_C K) (hE : sx_E X K (sx_Qv K (fun σ _ => Q σ))) (hn : n < 2) : ∀ (f : Nat) (v1 : Int32) (σ : sx_M) (τ : sx_L) , wp_En_passTick_b71 n Q f v1 σ → sx_G X K 3 71 [(0, .ref (K.2.2.1 31 n 0)), (1, .int v1)] [] (sx_H K σ τ) := by
  intro f
  induction f with
  | zero => intro v1 σ τ h; exact (show False from h).elim
  | succ f ih =>
    intro v1 σ τ h
    rw [wp_En_passTick_b71] at h
    refine sx_iload_n (pc2 := 72) hX 1 d_En_passTick_71 rfl rfl rfl ?_
    refine sx_aload_n (pc2 := 73) hX 0 d_En_passTick_72 rfl rfl rfl ?_
    refine fg_En_32 (pc2 := 76) hX (hK 31 n 0 hn (by decide)) d_En_passTick_73 rfl ?_
    refine fg_En_75 (pc2 := 79) hX (hK 8 0 0 (by decide) (by decide)) d_En_passTick_76 rfl ?_
    refine sx_icmp_ge (tgt := 108) (pc2 := 82) hX d_En_passTick_79 (by decide) rfl (fun hc9 => ?_) (fun hc9 => ?_)
    · replace h := sx_t h hc9
      refine sx_iconst (v := 0) (pc2 := 109) hX d_En_passTick_108 (by decide) rfl ?_
      refine sx_istore_n (pc2 := 110) hX _ [(0, .ref (K.2.2.1 31 n 0)), (1, .int 0)] [1, 0] d_En_passTick_109 rfl (by decide) rfl rfl rfl ?_
      obtain ⟨f110, h⟩ := h
      exact g_En_passTick_b110 hX hK hE hn  f110 0 _ _ h
    · replace h := sx_f h hc9
      refine sx_aload_n (pc2 := 83) hX 0 d_En_passTick_82 rfl rfl rfl ?_
      refine fg_En_22 (pc2 := 86) hX (hK 31 n 0 hn (by decide)) d_En_passTick_83 rfl ?_
      refine fg_En_78 (pc2 := 89) hX (hK 16 n 0 (sx_w2 hn) (by decide)) d_En_passTick_86 rfl ?_
      refine sx_iload_n (pc2 := 90) hX 1 d_En_passTick_89 rfl rfl rfl ?_
      obtain ⟨hc10, h⟩ := h
      refine sx_aald (a := K.2.2.1 27 n v1.toNatClampNeg) (pc2 := 91) hX (hK 17 n 0 (sx_w2 hn) (by decide)) 4 rfl rfl rfl hc10 d_En_passTick_90 rfl ?_
      refine fg_En_130 (pc2 := 94) hX (hK 27 n v1.toNatClampNeg (sx_w2 hn) (sx_lt hc10)) d_En_passTick_91 rfl ?_
      refine sx_if_eq (tgt := 102) (pc2 := 97) hX d_En_passTick_94 (by decide) rfl (fun hc11 => ?_) (fun hc11 => ?_)
      · replace h := sx_t h hc11
        exact g_En_passTick_b102 hX hK hE hn ih v1 _ _ h
      · replace h := sx_f h hc11
        refine sx_aload_n (pc2 := 98) hX 0 d_En_passTick_97 rfl rfl rfl ?_
        refine sx_iload_n (pc2 := 99) hX 1 d_En_passTick_98 rfl rfl rfl ?_
        refine cl_En_134 (pc2 := 102) hX hK h hn ⟨Nat.le_of_ble_eq_true rfl, Nat.le_of_ble_eq_true rfl⟩ (Nat.le_of_ble_eq_true rfl) d_En_passTick_99 rfl (fun σ12 τ12 h => ?_)
        exact g_En_passTick_b102 hX hK hE hn ih v1 _ _ h
set_option maxRecDepth 100000 in
set_option maxHeartbeats 4000000 in
theorem g_En_passTick_b63 {l : Launch} {K : sx_K} {X : sx_T} {n : Nat} {k27 : Int32 → sx_M → Prop} {Q : sx_M → Prop} (hX : sx_C X K prog_2_method_7_code 3 "SensorTree$Engine" none rm_En_passTick l) (hK : kx_C K) (hE : sx_E X K (sx_Qv K (fun σ _ => Q σ))) (hn : n < 2) (hk27 : ∀ (v1 : Int32) (σ : sx_M) (τ : sx_L) , k27 v1 σ → sx_G X K 3 27 [(0, .ref (K.2.2.1 31 n 0)), (1, .int v1)] [] (sx_H K σ τ)) (v1 : Int32) (σ : sx_M) (τ : sx_L)  (h : wp_En_passTick_b63 n k27 Q  v1 σ) : sx_G X K 3 63 [(0, .ref (K.2.2.1 31 n 0)), (1, .int v1)] [] (sx_H K σ τ) := by
  unfold wp_En_passTick_b63 at h
  refine sx_iinc (pc2 := 66) hX 1 _ [(0, .ref (K.2.2.1 31 n 0)), (1, .int (v1 + 1))] [1, 0] d_En_passTick_63 rfl (v1 + 1) rfl (by decide) rfl rfl rfl ?_
  refine sx_goto (tgt := 27) hX d_En_passTick_66 (by decide) ?_
  exact hk27 (v1 + 1) _ _ h
set_option maxRecDepth 100000 in
set_option maxHeartbeats 4000000 in
theorem g_En_passTick_b27 {l : Launch} {K : sx_K} {X : sx_T} {n : Nat}  {Q : sx_M → Prop} (hX : sx_C X K prog_2_method_7_code 3 "SensorTree$Engine" none rm_En_passTick l) (hK : kx_C K) (hE : sx_E X K (sx_Qv K (fun σ _ => Q σ))) (hn : n < 2) : ∀ (f : Nat) (v1 : Int32) (σ : sx_M) (τ : sx_L) , wp_En_passTick_b27 n Q f v1 σ → sx_G X K 3 27 [(0, .ref (K.2.2.1 31 n 0)), (1, .int v1)] [] (sx_H K σ τ) := by
  intro f
  induction f with
  | zero => intro v1 σ τ h; exact (show False from h).elim
  | succ f ih =>
    intro v1 σ τ h
    rw [wp_En_passTick_b27] at h
    refine sx_iload_n (pc2 := 28) hX 1 d_En_passTick_27 rfl rfl rfl ?_
    refine sx_aload_n (pc2 := 29) hX 0 d_En_passTick_28 rfl rfl rfl ?_
    refine fg_En_12 (pc2 := 32) hX (hK 31 n 0 hn (by decide)) d_En_passTick_29 rfl ?_
    refine fg_En_57 (pc2 := 35) hX (hK 20 (25 + n) 0 (sx_w27 hn) (by decide)) d_En_passTick_32 rfl ?_
    refine sx_icmp_ge (tgt := 69) (pc2 := 38) hX d_En_passTick_35 (by decide) rfl (fun hc13 => ?_) (fun hc13 => ?_)
    · replace h := sx_t h hc13
      refine sx_iconst (v := 0) (pc2 := 70) hX d_En_passTick_69 (by decide) rfl ?_
      refine sx_istore_n (pc2 := 71) hX _ [(0, .ref (K.2.2.1 31 n 0)), (1, .int 0)] [1, 0] d_En_passTick_70 rfl (by decide) rfl rfl rfl ?_
      obtain ⟨f71, h⟩ := h
      exact g_En_passTick_b71 hX hK hE hn  f71 0 _ _ h
    · replace h := sx_f h hc13
      refine sx_aload_n (pc2 := 39) hX 0 d_En_passTick_38 rfl rfl rfl ?_
      refine fg_En_12 (pc2 := 42) hX (hK 31 n 0 hn (by decide)) d_En_passTick_39 rfl ?_
      refine fg_En_121 (pc2 := 45) hX (hK 20 (25 + n) 0 (sx_w27 hn) (by decide)) d_En_passTick_42 rfl ?_
      refine sx_iload_n (pc2 := 46) hX 1 d_En_passTick_45 rfl rfl rfl ?_
      obtain ⟨hc14, h⟩ := h
      refine sx_iald (pc2 := 47) hX (hK 21 (25 + n) 0 (sx_w27 hn) (by decide)) rfl hc14 d_En_passTick_46 rfl ?_
      refine sx_if_ne (tgt := 58) (pc2 := 50) hX d_En_passTick_47 (by decide) rfl (fun hc15 => ?_) (fun hc15 => ?_)
      · replace h := sx_f h hc15
        refine sx_aload_n (pc2 := 59) hX 0 d_En_passTick_58 rfl rfl rfl ?_
        refine sx_iload_n (pc2 := 60) hX 1 d_En_passTick_59 rfl rfl rfl ?_
        refine cl_En_127 (pc2 := 63) hX hK h hn ⟨Nat.le_of_ble_eq_true rfl, Nat.le_of_ble_eq_true rfl⟩ (Nat.le_of_ble_eq_true rfl) d_En_passTick_60 rfl (fun σ16 τ16 h => ?_)
        exact g_En_passTick_b63 hX hK hE hn ih v1 _ _ h
      · replace h := sx_t h hc15
        refine sx_aload_n (pc2 := 51) hX 0 d_En_passTick_50 rfl rfl rfl ?_
        refine sx_iload_n (pc2 := 52) hX 1 d_En_passTick_51 rfl rfl rfl ?_
        refine cl_En_124 (pc2 := 55) hX hK h hn ⟨Nat.le_of_ble_eq_true rfl, Nat.le_of_ble_eq_true rfl⟩ (Nat.le_of_ble_eq_true rfl) d_En_passTick_52 rfl (fun σ17 τ17 h => ?_)
        refine sx_goto (tgt := 63) hX d_En_passTick_55 (by decide) ?_
        exact g_En_passTick_b63 hX hK hE hn ih v1 _ _ h
set_option maxRecDepth 100000 in
set_option maxHeartbeats 4000000 in
theorem c_En_passTick {l : Launch} {K : sx_K} (hK : kx_C K) (n : Nat) (σ : sx_M) (τ : sx_L) (Q : sx_M → Prop) (hn : n < 2) (h : wp_En_passTick n σ Q) : Met l y_En_passTick (sx_wd y_En_passTick prog_2_method_7_code 3 none) rm_En_passTick (sx_Pc K [.ref (K.2.2.1 31 n 0)] σ τ) (sx_Qv K (fun σ _ => Q σ)) 0 0 (sx_A K) := by
  refine sx_met (by decide) (Nat.le_of_ble_eq_true rfl) (fun X hX hE => ?_)
  replace hX : sx_C X K prog_2_method_7_code 3 "SensorTree$Engine" none rm_En_passTick l := hX
  show sx_G X K 3 0 [(0, .ref (K.2.2.1 31 n 0))] [] (sx_H K σ τ)
  unfold wp_En_passTick at h
  refine sx_aload_n (pc2 := 1) hX 0 d_En_passTick_0 rfl rfl rfl ?_
  refine fg_En_12 (pc2 := 4) hX (hK 31 n 0 hn (by decide)) d_En_passTick_1 rfl ?_
  refine sx_aload_n (pc2 := 5) hX 0 d_En_passTick_4 rfl rfl rfl ?_
  refine fg_En_22 (pc2 := 8) hX (hK 31 n 0 hn (by decide)) d_En_passTick_5 rfl ?_
  refine fg_En_54 (pc2 := 11) hX (hK 16 n 0 (sx_w2 hn) (by decide)) d_En_passTick_8 rfl ?_
  refine cl_En_117 (pc2 := 14) hX hK h (sx_w27 hn) (sx_w25 (sx_w2 hn)) ⟨Nat.le_of_ble_eq_true rfl, Nat.le_of_ble_eq_true rfl⟩ (Nat.le_of_ble_eq_true rfl) d_En_passTick_11 rfl (fun σ18 τ18 h => ?_)
  refine sx_aload_n (pc2 := 15) hX 0 d_En_passTick_14 rfl rfl rfl ?_
  refine fg_En_22 (pc2 := 18) hX (hK 31 n 0 hn (by decide)) d_En_passTick_15 rfl ?_
  refine fg_En_54 (pc2 := 21) hX (hK 16 n 0 (sx_w2 hn) (by decide)) d_En_passTick_18 rfl ?_
  refine sx_iconst (v := 0) (pc2 := 22) hX d_En_passTick_21 (by decide) rfl ?_
  refine fp_En_57 (pc2 := 25) hX (hK 20 n 0 (sx_w25 (sx_w2 hn)) (by decide)) d_En_passTick_22 rfl ?_
  refine sx_nm (fun σ19 e19 => ?_)
  replace h := h σ19 e19
  refine sx_iconst (v := 0) (pc2 := 26) hX d_En_passTick_25 (by decide) rfl ?_
  refine sx_istore_n (pc2 := 27) hX _ [(0, .ref (K.2.2.1 31 n 0)), (1, .int 0)] [1, 0] d_En_passTick_26 rfl (by decide) rfl rfl rfl ?_
  obtain ⟨f27, h⟩ := h
  exact g_En_passTick_b27 hX hK hE hn  f27 0 _ _ h
theorem cl_St_122 {X : sx_T} {K : sx_K} {cc : ByteArray} {nL : Nat} {ret : Option FieldType} {rm : Room} {l : Launch} {pc pc2 : Nat} {lv : List (Nat × Value)} {st : List Value} {σ : sx_M} {τ : sx_L} {n : Nat} {Q : sx_M → Prop} (hX : sx_C X K cc nL "SensorTree" ret rm l) (hK : kx_C K) (h : wp_En_passTick n σ Q) (hn : n < 2) (hR : rm_En_passTick.frames + 1 ≤ rm.frames ∧ 8 + (3 + 11) + rm_En_passTick.locals ≤ rm.locals) (hst : (st.map fun v => v.category).sum ≤ 8) (hd : decode cc pc = .ok (.invokevirtual 122, 3)) (hpc : pc + 3 = pc2) (kk : ∀ (σ2 : sx_M) (τ2 : sx_L), Q σ2 → sx_G X K nL pc2 lv (st) (sx_H K σ2 τ2)) : sx_G X K nL pc lv (.ref (K.2.2.1 31 n 0) :: st) (sx_H K σ τ) :=
  sx_callVv (Q := fun σ _ => Q σ) (As := []) hX (c_En_passTick hK n σ τ Q hn h) (hK 31 n 0 hn (by decide)) rfl rfl lk_270 lk_271 hy_En_passTick lk_268 lk_27 lk_269 ⟨rfl, rfl⟩ hR hst rfl hd hpc kk
def y_En_allChoose : MethodName := ⟨"SensorTree$Engine", "allChoose", "()V"⟩
theorem hy_En_allChoose : y_En_allChoose.cls ≠ "java/lang/invoke/MethodHandle" ∧ y_En_allChoose.cls ≠ "java/lang/invoke/VarHandle" ∧ (parseMethodDescriptor y_En_allChoose.desc).map (fun d => d.parameters.length) = some 0 := by decide +kernel
theorem d_En_allChoose_0 : decode prog_2_method_18_code 0 = .ok (.iconst 0, 1) := by decide +kernel
theorem d_En_allChoose_1 : decode prog_2_method_18_code 1 = .ok (.istore_n 1, 1) := by decide +kernel
theorem d_En_allChoose_2 : decode prog_2_method_18_code 2 = .ok (.iload_n 1, 1) := by decide +kernel
theorem d_En_allChoose_3 : decode prog_2_method_18_code 3 = .ok (.aload_n 0, 1) := by decide +kernel
theorem d_En_allChoose_4 : decode prog_2_method_18_code 4 = .ok (.getfield 32, 3) := by decide +kernel
theorem d_En_allChoose_7 : decode prog_2_method_18_code 7 = .ok (.getfield 75, 3) := by decide +kernel
theorem d_En_allChoose_10 : decode prog_2_method_18_code 10 = .ok (.if_icmp .ge 14, 3) := by decide +kernel
theorem d_En_allChoose_13 : decode prog_2_method_18_code 13 = .ok (.aload_n 0, 1) := by decide +kernel
theorem d_En_allChoose_14 : decode prog_2_method_18_code 14 = .ok (.iload_n 1, 1) := by decide +kernel
theorem d_En_allChoose_15 : decode prog_2_method_18_code 15 = .ok (.invokevirtual 150, 3) := by decide +kernel
theorem d_En_allChoose_18 : decode prog_2_method_18_code 18 = .ok (.iinc 1 1, 3) := by decide +kernel
theorem d_En_allChoose_21 : decode prog_2_method_18_code 21 = .ok (.goto (-19), 3) := by decide +kernel
theorem d_En_allChoose_24 : decode prog_2_method_18_code 24 = .ok (.return_, 1) := by decide +kernel
def wp_En_allChoose_b2 (n : Nat)  (Q : sx_M → Prop) : Nat → Int32 → sx_M → Prop
  | 0, _, _ => False
  | f + 1, v1, σ => if σ 8 0 0 0 ≤ v1 then (Q σ) else (wp_En_choose n v1 σ (fun σ2 => wp_En_allChoose_b2 n Q f (v1 + 1) σ2))
def wp_En_allChoose (n : Nat) (σ : sx_M) (Q : sx_M → Prop) : Prop := ∃ f2, wp_En_allChoose_b2 n Q f2 0 σ
abbrev rm_En_allChoose : Room := { frames := 4, cells := 0, slots := 0, locals := 96 }
set_option maxRecDepth 100000 in
set_option maxHeartbeats 4000000 in
theorem g_En_allChoose_b2 {l : Launch} {K : sx_K} {X : sx_T} {n : Nat}  {Q : sx_M → Prop} (hX : sx_C X K prog_2_method_18_code 2 "SensorTree$Engine" none rm_En_allChoose l) (hK : kx_C K) (hE : sx_E X K (sx_Qv K (fun σ _ => Q σ))) (hn : n < 2) : ∀ (f : Nat) (v1 : Int32) (σ : sx_M) (τ : sx_L) , wp_En_allChoose_b2 n Q f v1 σ → sx_G X K 2 2 [(0, .ref (K.2.2.1 31 n 0)), (1, .int v1)] [] (sx_H K σ τ) := by
  intro f
  induction f with
  | zero => intro v1 σ τ h; exact (show False from h).elim
  | succ f ih =>
    intro v1 σ τ h
    rw [wp_En_allChoose_b2] at h
    refine sx_iload_n (pc2 := 3) hX 1 d_En_allChoose_2 rfl rfl rfl ?_
    refine sx_aload_n (pc2 := 4) hX 0 d_En_allChoose_3 rfl rfl rfl ?_
    refine fg_En_32 (pc2 := 7) hX (hK 31 n 0 hn (by decide)) d_En_allChoose_4 rfl ?_
    refine fg_En_75 (pc2 := 10) hX (hK 8 0 0 (by decide) (by decide)) d_En_allChoose_7 rfl ?_
    refine sx_icmp_ge (tgt := 24) (pc2 := 13) hX d_En_allChoose_10 (by decide) rfl (fun hc1 => ?_) (fun hc1 => ?_)
    · replace h := sx_t h hc1
      exact sx_vret hX hE h d_En_allChoose_24
    · replace h := sx_f h hc1
      refine sx_aload_n (pc2 := 14) hX 0 d_En_allChoose_13 rfl rfl rfl ?_
      refine sx_iload_n (pc2 := 15) hX 1 d_En_allChoose_14 rfl rfl rfl ?_
      refine cl_En_150 (pc2 := 18) hX hK h hn ⟨Nat.le_of_ble_eq_true rfl, Nat.le_of_ble_eq_true rfl⟩ (Nat.le_of_ble_eq_true rfl) d_En_allChoose_15 rfl (fun σ2 τ2 h => ?_)
      refine sx_iinc (pc2 := 21) hX 1 _ [(0, .ref (K.2.2.1 31 n 0)), (1, .int (v1 + 1))] [1, 0] d_En_allChoose_18 rfl (v1 + 1) rfl (by decide) rfl rfl rfl ?_
      refine sx_goto (tgt := 2) hX d_En_allChoose_21 (by decide) ?_
      exact ih (v1 + 1) _ _ h
set_option maxRecDepth 100000 in
set_option maxHeartbeats 4000000 in
theorem c_En_allChoose {l : Launch} {K : sx_K} (hK : kx_C K) (n : Nat) (σ : sx_M) (τ : sx_L) (Q : sx_M → Prop) (hn : n < 2) (h : wp_En_allChoose n σ Q) : Met l y_En_allChoose (sx_wd y_En_allChoose prog_2_method_18_code 2 none) rm_En_allChoose (sx_Pc K [.ref (K.2.2.1 31 n 0)] σ τ) (sx_Qv K (fun σ _ => Q σ)) 0 0 (sx_A K) := by
  refine sx_met (by decide) (Nat.le_of_ble_eq_true rfl) (fun X hX hE => ?_)
  replace hX : sx_C X K prog_2_method_18_code 2 "SensorTree$Engine" none rm_En_allChoose l := hX
  show sx_G X K 2 0 [(0, .ref (K.2.2.1 31 n 0))] [] (sx_H K σ τ)
  unfold wp_En_allChoose at h
  refine sx_iconst (v := 0) (pc2 := 1) hX d_En_allChoose_0 (by decide) rfl ?_
  refine sx_istore_n (pc2 := 2) hX _ [(0, .ref (K.2.2.1 31 n 0)), (1, .int 0)] [1, 0] d_En_allChoose_1 rfl (by decide) rfl rfl rfl ?_
  obtain ⟨f2, h⟩ := h
  exact g_En_allChoose_b2 hX hK hE hn  f2 0 _ _ h
theorem cl_St_138 {X : sx_T} {K : sx_K} {cc : ByteArray} {nL : Nat} {ret : Option FieldType} {rm : Room} {l : Launch} {pc pc2 : Nat} {lv : List (Nat × Value)} {st : List Value} {σ : sx_M} {τ : sx_L} {n : Nat} {Q : sx_M → Prop} (hX : sx_C X K cc nL "SensorTree" ret rm l) (hK : kx_C K) (h : wp_En_allChoose n σ Q) (hn : n < 2) (hR : rm_En_allChoose.frames + 1 ≤ rm.frames ∧ 8 + (2 + 11) + rm_En_allChoose.locals ≤ rm.locals) (hst : (st.map fun v => v.category).sum ≤ 8) (hd : decode cc pc = .ok (.invokevirtual 138, 3)) (hpc : pc + 3 = pc2) (kk : ∀ (σ2 : sx_M) (τ2 : sx_L), Q σ2 → sx_G X K nL pc2 lv (st) (sx_H K σ2 τ2)) : sx_G X K nL pc lv (.ref (K.2.2.1 31 n 0) :: st) (sx_H K σ τ) :=
  sx_callVv (Q := fun σ _ => Q σ) (As := []) hX (c_En_allChoose hK n σ τ Q hn h) (hK 31 n 0 hn (by decide)) rfl rfl lk_280 lk_281 hy_En_allChoose lk_278 lk_27 lk_279 ⟨rfl, rfl⟩ hR hst rfl hd hpc kk
def y_Jo_endAt : MethodName := ⟨"SensorTree$Journey", "endAt", "(IZZ)I"⟩
theorem hy_Jo_endAt : y_Jo_endAt.cls ≠ "java/lang/invoke/MethodHandle" ∧ y_Jo_endAt.cls ≠ "java/lang/invoke/VarHandle" ∧ (parseMethodDescriptor y_Jo_endAt.desc).map (fun d => d.parameters.length) = some 3 := by decide +kernel
theorem d_Jo_endAt_0 : decode prog_3_method_3_code 0 = .ok (.iload_n 2, 1) := by decide +kernel
theorem d_Jo_endAt_1 : decode prog_3_method_3_code 1 = .ok (.ifCond .eq 5, 3) := by decide +kernel
theorem d_Jo_endAt_4 : decode prog_3_method_3_code 4 = .ok (.iconst 0, 1) := by decide +kernel
theorem d_Jo_endAt_5 : decode prog_3_method_3_code 5 = .ok (.ireturn, 1) := by decide +kernel
theorem d_Jo_endAt_6 : decode prog_3_method_3_code 6 = .ok (.iload_n 3, 1) := by decide +kernel
theorem d_Jo_endAt_7 : decode prog_3_method_3_code 7 = .ok (.ifCond .eq 5, 3) := by decide +kernel
theorem d_Jo_endAt_10 : decode prog_3_method_3_code 10 = .ok (.iconst 5, 1) := by decide +kernel
theorem d_Jo_endAt_11 : decode prog_3_method_3_code 11 = .ok (.ireturn, 1) := by decide +kernel
theorem d_Jo_endAt_12 : decode prog_3_method_3_code 12 = .ok (.iload_n 1, 1) := by decide +kernel
theorem d_Jo_endAt_13 : decode prog_3_method_3_code 13 = .ok (.ifCond .ne 5, 3) := by decide +kernel
theorem d_Jo_endAt_16 : decode prog_3_method_3_code 16 = .ok (.iconst 2, 1) := by decide +kernel
theorem d_Jo_endAt_17 : decode prog_3_method_3_code 17 = .ok (.ireturn, 1) := by decide +kernel
theorem d_Jo_endAt_18 : decode prog_3_method_3_code 18 = .ok (.aload_n 0, 1) := by decide +kernel
theorem d_Jo_endAt_19 : decode prog_3_method_3_code 19 = .ok (.getfield 31, 3) := by decide +kernel
theorem d_Jo_endAt_22 : decode prog_3_method_3_code 22 = .ok (.getfield 35, 3) := by decide +kernel
theorem d_Jo_endAt_25 : decode prog_3_method_3_code 25 = .ok (.iload_n 1, 1) := by decide +kernel
theorem d_Jo_endAt_26 : decode prog_3_method_3_code 26 = .ok (.aaload, 1) := by decide +kernel
theorem d_Jo_endAt_27 : decode prog_3_method_3_code 27 = .ok (.getfield 50, 3) := by decide +kernel
theorem d_Jo_endAt_30 : decode prog_3_method_3_code 30 = .ok (.bipush (-2), 2) := by decide +kernel
theorem d_Jo_endAt_32 : decode prog_3_method_3_code 32 = .ok (.if_icmp .ne 7, 3) := by decide +kernel
theorem d_Jo_endAt_35 : decode prog_3_method_3_code 35 = .ok (.iconst 1, 1) := by decide +kernel
theorem d_Jo_endAt_36 : decode prog_3_method_3_code 36 = .ok (.goto 4, 3) := by decide +kernel
theorem d_Jo_endAt_39 : decode prog_3_method_3_code 39 = .ok (.iconst 0, 1) := by decide +kernel
theorem d_Jo_endAt_40 : decode prog_3_method_3_code 40 = .ok (.ireturn, 1) := by decide +kernel
def wp_Jo_endAt_b40   (Q : Int32 → sx_M → Prop) (w0 : Int32) (σ : sx_M) : Prop := Q w0 σ
def wp_Jo_endAt (x1 : Int32) (x2 : Int32) (x3 : Int32) (σ : sx_M) (Q : Int32 → sx_M → Prop) : Prop := if x2 = 0 then (if x3 = 0 then (if x1 = 0 then (Q 2 σ) else (vp_in x1 7 ∧ (if σ 27 0 x1.toNatClampNeg 3 = (-2) then (wp_Jo_endAt_b40 Q 1 σ) else (wp_Jo_endAt_b40 Q 0 σ)))) else (Q 5 σ)) else (Q 0 σ)
abbrev rm_Jo_endAt : Room := { frames := 0, cells := 0, slots := 0, locals := 0 }
set_option maxRecDepth 100000 in
set_option maxHeartbeats 4000000 in
theorem g_Jo_endAt_b40 {l : Launch} {K : sx_K} {X : sx_T}   {Q : Int32 → sx_M → Prop} (hX : sx_C X K prog_3_method_3_code 4 "SensorTree$Journey" (some .int) rm_Jo_endAt l) (hK : kx_C K) (hE : sx_E X K (sx_Qi K (fun r σ _ => Q r σ)))  (w0 : Int32) (σ : sx_M) (τ : sx_L)  (h : wp_Jo_endAt_b40 Q  w0 σ) : sx_G X K 4 40 [] [.int w0] (sx_H K σ τ) := by
  unfold wp_Jo_endAt_b40 at h
  exact sx_iret hX hE h d_Jo_endAt_40
set_option maxRecDepth 100000 in
set_option maxHeartbeats 4000000 in
theorem c_Jo_endAt {l : Launch} {K : sx_K} (hK : kx_C K) (x1 : Int32) (x2 : Int32) (x3 : Int32) (σ : sx_M) (τ : sx_L) (Q : Int32 → sx_M → Prop)  (h : wp_Jo_endAt x1 x2 x3 σ Q) : Met l y_Jo_endAt (sx_wd y_Jo_endAt prog_3_method_3_code 4 (some .int)) rm_Jo_endAt (sx_Pc K [.ref (K.2.2.1 34 0 0), .int x1, .int x2, .int x3] σ τ) (sx_Qi K (fun r σ _ => Q r σ)) 0 0 (sx_A K) := by
  refine sx_met (by decide) (Nat.le_of_ble_eq_true rfl) (fun X hX hE => ?_)
  replace hX : sx_C X K prog_3_method_3_code 4 "SensorTree$Journey" (some .int) rm_Jo_endAt l := hX
  show sx_G X K 4 0 [(0, .ref (K.2.2.1 34 0 0)), (1, .int x1), (2, .int x2), (3, .int x3)] [] (sx_H K σ τ)
  unfold wp_Jo_endAt at h
  refine sx_iload_n (pc2 := 1) hX 2 d_Jo_endAt_0 rfl rfl rfl ?_
  refine sx_if_eq (tgt := 6) (pc2 := 4) hX d_Jo_endAt_1 (by decide) rfl (fun hc1 => ?_) (fun hc1 => ?_)
  · replace h := sx_t h hc1
    refine sx_iload_n (pc2 := 7) hX 3 d_Jo_endAt_6 rfl rfl rfl ?_
    refine sx_if_eq (tgt := 12) (pc2 := 10) hX d_Jo_endAt_7 (by decide) rfl (fun hc2 => ?_) (fun hc2 => ?_)
    · replace h := sx_t h hc2
      refine sx_iload_n (pc2 := 13) hX 1 d_Jo_endAt_12 rfl rfl rfl ?_
      refine sx_if_ne (tgt := 18) (pc2 := 16) hX d_Jo_endAt_13 (by decide) rfl (fun hc3 => ?_) (fun hc3 => ?_)
      · replace h := sx_f h hc3
        refine sx_aload_n (pc2 := 19) hX 0 d_Jo_endAt_18 rfl rfl rfl ?_
        refine fg_Jo_31 (pc2 := 22) hX (hK 34 0 0 (by decide) (by decide)) d_Jo_endAt_19 rfl ?_
        refine fg_Jo_35 (pc2 := 25) hX (hK 16 0 0 (by decide) (by decide)) d_Jo_endAt_22 rfl ?_
        refine sx_iload_n (pc2 := 26) hX 1 d_Jo_endAt_25 rfl rfl rfl ?_
        obtain ⟨hc4, h⟩ := h
        refine sx_aald (a := K.2.2.1 27 0 x1.toNatClampNeg) (pc2 := 27) hX (hK 17 0 0 (by decide) (by decide)) 4 rfl rfl rfl hc4 d_Jo_endAt_26 rfl ?_
        refine fg_Jo_50 (pc2 := 30) hX (hK 27 0 x1.toNatClampNeg (by decide) (sx_lt hc4)) d_Jo_endAt_27 rfl ?_
        refine sx_bipush (v := (-2)) (pc2 := 32) hX d_Jo_endAt_30 (by decide) rfl ?_
        refine sx_icmp_ne (tgt := 39) (pc2 := 35) hX d_Jo_endAt_32 (by decide) rfl (fun hc5 => ?_) (fun hc5 => ?_)
        · replace h := sx_f h hc5
          refine sx_iconst (v := 0) (pc2 := 40) hX d_Jo_endAt_39 (by decide) rfl ?_
          refine sx_sub [] [] rfl ?_
          exact g_Jo_endAt_b40 hX hK hE   0 _ _ h
        · replace h := sx_t h hc5
          refine sx_iconst (v := 1) (pc2 := 36) hX d_Jo_endAt_35 (by decide) rfl ?_
          refine sx_goto (tgt := 40) hX d_Jo_endAt_36 (by decide) ?_
          refine sx_sub [] [] rfl ?_
          exact g_Jo_endAt_b40 hX hK hE   1 _ _ h
      · replace h := sx_t h hc3
        refine sx_iconst (v := 2) (pc2 := 17) hX d_Jo_endAt_16 (by decide) rfl ?_
        exact sx_iret hX hE h d_Jo_endAt_17
    · replace h := sx_f h hc2
      refine sx_iconst (v := 5) (pc2 := 11) hX d_Jo_endAt_10 (by decide) rfl ?_
      exact sx_iret hX hE h d_Jo_endAt_11
  · replace h := sx_f h hc1
    refine sx_iconst (v := 0) (pc2 := 5) hX d_Jo_endAt_4 (by decide) rfl ?_
    exact sx_iret hX hE h d_Jo_endAt_5
theorem cl_Jo_46 {X : sx_T} {K : sx_K} {cc : ByteArray} {nL : Nat} {ret : Option FieldType} {rm : Room} {l : Launch} {pc pc2 : Nat} {lv : List (Nat × Value)} {st : List Value} {σ : sx_M} {τ : sx_L} {x1 : Int32} {x2 : Int32} {x3 : Int32} {Q : Int32 → sx_M → Prop} (hX : sx_C X K cc nL "SensorTree$Journey" ret rm l) (hK : kx_C K) (h : wp_Jo_endAt x1 x2 x3 σ Q)  (hR : rm_Jo_endAt.frames + 1 ≤ rm.frames ∧ 8 + (4 + 11) + rm_Jo_endAt.locals ≤ rm.locals) (hst : (st.map fun v => v.category).sum ≤ 8) (hd : decode cc pc = .ok (.invokevirtual 46, 3)) (hpc : pc + 3 = pc2) (kk : ∀ (r : Int32) (σ2 : sx_M) (τ2 : sx_L), Q r σ2 → sx_G X K nL pc2 lv (.int r :: st) (sx_H K σ2 τ2)) : sx_G X K nL pc lv (.int x3 :: .int x2 :: .int x1 :: .ref (K.2.2.1 34 0 0) :: st) (sx_H K σ τ) :=
  sx_callVi (Q := fun r σ _ => Q r σ) (As := [.int x1, .int x2, .int x3]) hX (c_Jo_endAt hK x1 x2 x3 σ τ Q  h) (hK 34 0 0 (by decide) (by decide)) rfl rfl lk_120 ls_32 hy_Jo_endAt lk_118 lk_114 lk_119 ⟨rfl, rfl⟩ hR hst rfl hd hpc kk
def y_Jo_endOfHop : MethodName := ⟨"SensorTree$Journey", "endOfHop", "(IIZ)I"⟩
theorem hy_Jo_endOfHop : y_Jo_endOfHop.cls ≠ "java/lang/invoke/MethodHandle" ∧ y_Jo_endOfHop.cls ≠ "java/lang/invoke/VarHandle" ∧ (parseMethodDescriptor y_Jo_endOfHop.desc).map (fun d => d.parameters.length) = some 3 := by decide +kernel
theorem d_Jo_endOfHop_0 : decode prog_3_method_4_code 0 = .ok (.aload_n 0, 1) := by decide +kernel
theorem d_Jo_endOfHop_1 : decode prog_3_method_4_code 1 = .ok (.getfield 31, 3) := by decide +kernel
theorem d_Jo_endOfHop_4 : decode prog_3_method_4_code 4 = .ok (.iload_n 1, 1) := by decide +kernel
theorem d_Jo_endOfHop_5 : decode prog_3_method_4_code 5 = .ok (.iload_n 2, 1) := by decide +kernel
theorem d_Jo_endOfHop_6 : decode prog_3_method_4_code 6 = .ok (.invokevirtual 57, 3) := by decide +kernel
theorem d_Jo_endOfHop_9 : decode prog_3_method_4_code 9 = .ok (.ifCond .ne 5, 3) := by decide +kernel
theorem d_Jo_endOfHop_12 : decode prog_3_method_4_code 12 = .ok (.iconst 3, 1) := by decide +kernel
theorem d_Jo_endOfHop_13 : decode prog_3_method_4_code 13 = .ok (.ireturn, 1) := by decide +kernel
theorem d_Jo_endOfHop_14 : decode prog_3_method_4_code 14 = .ok (.aload_n 0, 1) := by decide +kernel
theorem d_Jo_endOfHop_15 : decode prog_3_method_4_code 15 = .ok (.getfield 15, 3) := by decide +kernel
theorem d_Jo_endOfHop_18 : decode prog_3_method_4_code 18 = .ok (.bipush 20, 2) := by decide +kernel
theorem d_Jo_endOfHop_20 : decode prog_3_method_4_code 20 = .ok (.if_icmp .lt 6, 3) := by decide +kernel
theorem d_Jo_endOfHop_23 : decode prog_3_method_4_code 23 = .ok (.bipush 6, 2) := by decide +kernel
theorem d_Jo_endOfHop_25 : decode prog_3_method_4_code 25 = .ok (.ireturn, 1) := by decide +kernel
theorem d_Jo_endOfHop_26 : decode prog_3_method_4_code 26 = .ok (.aload_n 0, 1) := by decide +kernel
theorem d_Jo_endOfHop_27 : decode prog_3_method_4_code 27 = .ok (.getfield 11, 3) := by decide +kernel
theorem d_Jo_endOfHop_30 : decode prog_3_method_4_code 30 = .ok (.aload_n 0, 1) := by decide +kernel
theorem d_Jo_endOfHop_31 : decode prog_3_method_4_code 31 = .ok (.getfield 15, 3) := by decide +kernel
theorem d_Jo_endOfHop_34 : decode prog_3_method_4_code 34 = .ok (.iload_n 2, 1) := by decide +kernel
theorem d_Jo_endOfHop_35 : decode prog_3_method_4_code 35 = .ok (.iastore, 1) := by decide +kernel
theorem d_Jo_endOfHop_36 : decode prog_3_method_4_code 36 = .ok (.aload_n 0, 1) := by decide +kernel
theorem d_Jo_endOfHop_37 : decode prog_3_method_4_code 37 = .ok (.dup, 1) := by decide +kernel
theorem d_Jo_endOfHop_38 : decode prog_3_method_4_code 38 = .ok (.getfield 15, 3) := by decide +kernel
theorem d_Jo_endOfHop_41 : decode prog_3_method_4_code 41 = .ok (.iconst 1, 1) := by decide +kernel
theorem d_Jo_endOfHop_42 : decode prog_3_method_4_code 42 = .ok (.iadd, 1) := by decide +kernel
theorem d_Jo_endOfHop_43 : decode prog_3_method_4_code 43 = .ok (.putfield 15, 3) := by decide +kernel
theorem d_Jo_endOfHop_46 : decode prog_3_method_4_code 46 = .ok (.aload_n 0, 1) := by decide +kernel
theorem d_Jo_endOfHop_47 : decode prog_3_method_4_code 47 = .ok (.getfield 31, 3) := by decide +kernel
theorem d_Jo_endOfHop_50 : decode prog_3_method_4_code 50 = .ok (.getfield 35, 3) := by decide +kernel
theorem d_Jo_endOfHop_53 : decode prog_3_method_4_code 53 = .ok (.iload_n 2, 1) := by decide +kernel
theorem d_Jo_endOfHop_54 : decode prog_3_method_4_code 54 = .ok (.aaload, 1) := by decide +kernel
theorem d_Jo_endOfHop_55 : decode prog_3_method_4_code 55 = .ok (.getfield 61, 3) := by decide +kernel
theorem d_Jo_endOfHop_58 : decode prog_3_method_4_code 58 = .ok (.aload_n 0, 1) := by decide +kernel
theorem d_Jo_endOfHop_59 : decode prog_3_method_4_code 59 = .ok (.getfield 31, 3) := by decide +kernel
theorem d_Jo_endOfHop_62 : decode prog_3_method_4_code 62 = .ok (.getfield 35, 3) := by decide +kernel
theorem d_Jo_endOfHop_65 : decode prog_3_method_4_code 65 = .ok (.iload_n 1, 1) := by decide +kernel
theorem d_Jo_endOfHop_66 : decode prog_3_method_4_code 66 = .ok (.aaload, 1) := by decide +kernel
theorem d_Jo_endOfHop_67 : decode prog_3_method_4_code 67 = .ok (.getfield 61, 3) := by decide +kernel
theorem d_Jo_endOfHop_70 : decode prog_3_method_4_code 70 = .ok (.isub, 1) := by decide +kernel
theorem d_Jo_endOfHop_71 : decode prog_3_method_4_code 71 = .ok (.istore 4, 2) := by decide +kernel
theorem d_Jo_endOfHop_73 : decode prog_3_method_4_code 73 = .ok (.iload_n 3, 1) := by decide +kernel
theorem d_Jo_endOfHop_74 : decode prog_3_method_4_code 74 = .ok (.ifCond .eq 16, 3) := by decide +kernel
theorem d_Jo_endOfHop_77 : decode prog_3_method_4_code 77 = .ok (.iload 4, 2) := by decide +kernel
theorem d_Jo_endOfHop_79 : decode prog_3_method_4_code 79 = .ok (.ifCond .gt 7, 3) := by decide +kernel
theorem d_Jo_endOfHop_82 : decode prog_3_method_4_code 82 = .ok (.iconst 1, 1) := by decide +kernel
theorem d_Jo_endOfHop_83 : decode prog_3_method_4_code 83 = .ok (.goto 17, 3) := by decide +kernel
theorem d_Jo_endOfHop_86 : decode prog_3_method_4_code 86 = .ok (.iconst 0, 1) := by decide +kernel
theorem d_Jo_endOfHop_87 : decode prog_3_method_4_code 87 = .ok (.goto 13, 3) := by decide +kernel
theorem d_Jo_endOfHop_90 : decode prog_3_method_4_code 90 = .ok (.iload 4, 2) := by decide +kernel
theorem d_Jo_endOfHop_92 : decode prog_3_method_4_code 92 = .ok (.ifCond .lt 7, 3) := by decide +kernel
theorem d_Jo_endOfHop_95 : decode prog_3_method_4_code 95 = .ok (.iconst 1, 1) := by decide +kernel
theorem d_Jo_endOfHop_96 : decode prog_3_method_4_code 96 = .ok (.goto 4, 3) := by decide +kernel
theorem d_Jo_endOfHop_99 : decode prog_3_method_4_code 99 = .ok (.iconst 0, 1) := by decide +kernel
theorem d_Jo_endOfHop_100 : decode prog_3_method_4_code 100 = .ok (.istore 5, 2) := by decide +kernel
theorem d_Jo_endOfHop_102 : decode prog_3_method_4_code 102 = .ok (.iload 5, 2) := by decide +kernel
theorem d_Jo_endOfHop_104 : decode prog_3_method_4_code 104 = .ok (.ifCond .eq 31, 3) := by decide +kernel
theorem d_Jo_endOfHop_107 : decode prog_3_method_4_code 107 = .ok (.aload_n 0, 1) := by decide +kernel
theorem d_Jo_endOfHop_108 : decode prog_3_method_4_code 108 = .ok (.getfield 22, 3) := by decide +kernel
theorem d_Jo_endOfHop_111 : decode prog_3_method_4_code 111 = .ok (.iconst 2, 1) := by decide +kernel
theorem d_Jo_endOfHop_112 : decode prog_3_method_4_code 112 = .ok (.if_icmp .ge 23, 3) := by decide +kernel
theorem d_Jo_endOfHop_115 : decode prog_3_method_4_code 115 = .ok (.aload_n 0, 1) := by decide +kernel
theorem d_Jo_endOfHop_116 : decode prog_3_method_4_code 116 = .ok (.getfield 19, 3) := by decide +kernel
theorem d_Jo_endOfHop_119 : decode prog_3_method_4_code 119 = .ok (.aload_n 0, 1) := by decide +kernel
theorem d_Jo_endOfHop_120 : decode prog_3_method_4_code 120 = .ok (.getfield 22, 3) := by decide +kernel
theorem d_Jo_endOfHop_123 : decode prog_3_method_4_code 123 = .ok (.iload_n 2, 1) := by decide +kernel
theorem d_Jo_endOfHop_124 : decode prog_3_method_4_code 124 = .ok (.iastore, 1) := by decide +kernel
theorem d_Jo_endOfHop_125 : decode prog_3_method_4_code 125 = .ok (.aload_n 0, 1) := by decide +kernel
theorem d_Jo_endOfHop_126 : decode prog_3_method_4_code 126 = .ok (.dup, 1) := by decide +kernel
theorem d_Jo_endOfHop_127 : decode prog_3_method_4_code 127 = .ok (.getfield 22, 3) := by decide +kernel
theorem d_Jo_endOfHop_130 : decode prog_3_method_4_code 130 = .ok (.iconst 1, 1) := by decide +kernel
theorem d_Jo_endOfHop_131 : decode prog_3_method_4_code 131 = .ok (.iadd, 1) := by decide +kernel
theorem d_Jo_endOfHop_132 : decode prog_3_method_4_code 132 = .ok (.putfield 22, 3) := by decide +kernel
theorem d_Jo_endOfHop_135 : decode prog_3_method_4_code 135 = .ok (.aload_n 0, 1) := by decide +kernel
theorem d_Jo_endOfHop_136 : decode prog_3_method_4_code 136 = .ok (.getfield 22, 3) := by decide +kernel
theorem d_Jo_endOfHop_139 : decode prog_3_method_4_code 139 = .ok (.iconst 2, 1) := by decide +kernel
theorem d_Jo_endOfHop_140 : decode prog_3_method_4_code 140 = .ok (.if_icmp .ne 7, 3) := by decide +kernel
theorem d_Jo_endOfHop_143 : decode prog_3_method_4_code 143 = .ok (.iconst 4, 1) := by decide +kernel
theorem d_Jo_endOfHop_144 : decode prog_3_method_4_code 144 = .ok (.goto 4, 3) := by decide +kernel
theorem d_Jo_endOfHop_147 : decode prog_3_method_4_code 147 = .ok (.iconst 0, 1) := by decide +kernel
theorem d_Jo_endOfHop_148 : decode prog_3_method_4_code 148 = .ok (.ireturn, 1) := by decide +kernel
def wp_Jo_endOfHop_b148   (Q : Int32 → sx_M → Prop) (w0 : Int32) (σ : sx_M) : Prop := Q w0 σ
def wp_Jo_endOfHop_b135   (Q : Int32 → sx_M → Prop)  (σ : sx_M) : Prop := if σ 34 0 0 4 = 2 then (wp_Jo_endOfHop_b148 Q 4 σ) else (wp_Jo_endOfHop_b148 Q 0 σ)
def wp_Jo_endOfHop_b100   (Q : Int32 → sx_M → Prop) (v2 : Int32) (w0 : Int32) (σ : sx_M) : Prop := if w0 = 0 then (wp_Jo_endOfHop_b135 Q σ) else (if 2 ≤ σ 34 0 0 4 then (wp_Jo_endOfHop_b135 Q σ) else (vp_in (σ 34 0 0 4) 2 ∧ (∀ σ5 : sx_M, σ5 = sx_u σ 36 0 0 (σ 34 0 0 4).toNatClampNeg v2 → (∀ σ6 : sx_M, σ6 = sx_u σ5 34 0 0 4 ((σ5 34 0 0 4) + 1) → (wp_Jo_endOfHop_b135 Q σ6)))))
def wp_Jo_endOfHop (x1 : Int32) (x2 : Int32) (x3 : Int32) (σ : sx_M) (Q : Int32 → sx_M → Prop) : Prop := wp_Ne_areNeighbours 0 x1 x2 σ (fun r7 σ7 => if r7 = 0 then (Q 3 σ7) else (if σ7 34 0 0 2 < 20 then (vp_in (σ7 34 0 0 2) 20 ∧ (∀ σ11 : sx_M, σ11 = sx_u σ7 35 0 0 (σ7 34 0 0 2).toNatClampNeg x2 → (∀ σ12 : sx_M, σ12 = sx_u σ11 34 0 0 2 ((σ11 34 0 0 2) + 1) → (vp_in x2 7 ∧ (vp_in x1 7 ∧ (if x3 = 0 then (if (σ12 27 0 x2.toNatClampNeg 2) - (σ12 27 0 x1.toNatClampNeg 2) < 0 then (wp_Jo_endOfHop_b100 Q x2 0 σ12) else (wp_Jo_endOfHop_b100 Q x2 1 σ12)) else (if 0 < (σ12 27 0 x2.toNatClampNeg 2) - (σ12 27 0 x1.toNatClampNeg 2) then (wp_Jo_endOfHop_b100 Q x2 0 σ12) else (wp_Jo_endOfHop_b100 Q x2 1 σ12)))))))) else (Q 6 σ7)))
abbrev rm_Jo_endOfHop : Room := { frames := 1, cells := 0, slots := 0, locals := 23 }
set_option maxRecDepth 100000 in
set_option maxHeartbeats 4000000 in
theorem g_Jo_endOfHop_b148 {l : Launch} {K : sx_K} {X : sx_T}   {Q : Int32 → sx_M → Prop} (hX : sx_C X K prog_3_method_4_code 6 "SensorTree$Journey" (some .int) rm_Jo_endOfHop l) (hK : kx_C K) (hE : sx_E X K (sx_Qi K (fun r σ _ => Q r σ)))  (w0 : Int32) (σ : sx_M) (τ : sx_L)  (h : wp_Jo_endOfHop_b148 Q  w0 σ) : sx_G X K 6 148 [] [.int w0] (sx_H K σ τ) := by
  unfold wp_Jo_endOfHop_b148 at h
  exact sx_iret hX hE h d_Jo_endOfHop_148
set_option maxRecDepth 100000 in
set_option maxHeartbeats 4000000 in
theorem g_Jo_endOfHop_b135 {l : Launch} {K : sx_K} {X : sx_T}   {Q : Int32 → sx_M → Prop} (hX : sx_C X K prog_3_method_4_code 6 "SensorTree$Journey" (some .int) rm_Jo_endOfHop l) (hK : kx_C K) (hE : sx_E X K (sx_Qi K (fun r σ _ => Q r σ)))   (σ : sx_M) (τ : sx_L)  (h : wp_Jo_endOfHop_b135 Q  σ) : sx_G X K 6 135 [(0, .ref (K.2.2.1 34 0 0))] [] (sx_H K σ τ) := by
  unfold wp_Jo_endOfHop_b135 at h
  refine sx_aload_n (pc2 := 136) hX 0 d_Jo_endOfHop_135 rfl rfl rfl ?_
  refine fg_Jo_22 (pc2 := 139) hX (hK 34 0 0 (by decide) (by decide)) d_Jo_endOfHop_136 rfl ?_
  refine sx_iconst (v := 2) (pc2 := 140) hX d_Jo_endOfHop_139 (by decide) rfl ?_
  refine sx_icmp_ne (tgt := 147) (pc2 := 143) hX d_Jo_endOfHop_140 (by decide) rfl (fun hc1 => ?_) (fun hc1 => ?_)
  · replace h := sx_f h hc1
    refine sx_iconst (v := 0) (pc2 := 148) hX d_Jo_endOfHop_147 (by decide) rfl ?_
    refine sx_sub [] [] rfl ?_
    exact g_Jo_endOfHop_b148 hX hK hE   0 _ _ h
  · replace h := sx_t h hc1
    refine sx_iconst (v := 4) (pc2 := 144) hX d_Jo_endOfHop_143 (by decide) rfl ?_
    refine sx_goto (tgt := 148) hX d_Jo_endOfHop_144 (by decide) ?_
    refine sx_sub [] [] rfl ?_
    exact g_Jo_endOfHop_b148 hX hK hE   4 _ _ h
set_option maxRecDepth 100000 in
set_option maxHeartbeats 4000000 in
theorem g_Jo_endOfHop_b100 {l : Launch} {K : sx_K} {X : sx_T}   {Q : Int32 → sx_M → Prop} (hX : sx_C X K prog_3_method_4_code 6 "SensorTree$Journey" (some .int) rm_Jo_endOfHop l) (hK : kx_C K) (hE : sx_E X K (sx_Qi K (fun r σ _ => Q r σ)))  (v2 : Int32) (w0 : Int32) (σ : sx_M) (τ : sx_L)  (h : wp_Jo_endOfHop_b100 Q  v2 w0 σ) : sx_G X K 6 100 [(0, .ref (K.2.2.1 34 0 0)), (2, .int v2)] [.int w0] (sx_H K σ τ) := by
  unfold wp_Jo_endOfHop_b100 at h
  refine sx_istore (pc2 := 102) hX _ [(0, .ref (K.2.2.1 34 0 0)), (2, .int v2), (5, .int w0)] [1, 2, 0] d_Jo_endOfHop_100 (by decide) rfl rfl rfl ?_
  refine sx_iload (pc2 := 104) hX 2 d_Jo_endOfHop_102 rfl rfl ?_
  refine sx_if_eq (tgt := 135) (pc2 := 107) hX d_Jo_endOfHop_104 (by decide) rfl (fun hc2 => ?_) (fun hc2 => ?_)
  · replace h := sx_t h hc2
    refine sx_sub [(0, .ref (K.2.2.1 34 0 0))] [0] rfl ?_
    exact g_Jo_endOfHop_b135 hX hK hE   _ _ h
  · replace h := sx_f h hc2
    refine sx_aload_n (pc2 := 108) hX 0 d_Jo_endOfHop_107 rfl rfl rfl ?_
    refine fg_Jo_22 (pc2 := 111) hX (hK 34 0 0 (by decide) (by decide)) d_Jo_endOfHop_108 rfl ?_
    refine sx_iconst (v := 2) (pc2 := 112) hX d_Jo_endOfHop_111 (by decide) rfl ?_
    refine sx_icmp_ge (tgt := 135) (pc2 := 115) hX d_Jo_endOfHop_112 (by decide) rfl (fun hc3 => ?_) (fun hc3 => ?_)
    · replace h := sx_t h hc3
      refine sx_sub [(0, .ref (K.2.2.1 34 0 0))] [0] rfl ?_
      exact g_Jo_endOfHop_b135 hX hK hE   _ _ h
    · replace h := sx_f h hc3
      refine sx_aload_n (pc2 := 116) hX 0 d_Jo_endOfHop_115 rfl rfl rfl ?_
      refine fg_Jo_19 (pc2 := 119) hX (hK 34 0 0 (by decide) (by decide)) d_Jo_endOfHop_116 rfl ?_
      refine sx_aload_n (pc2 := 120) hX 0 d_Jo_endOfHop_119 rfl rfl rfl ?_
      refine fg_Jo_22 (pc2 := 123) hX (hK 34 0 0 (by decide) (by decide)) d_Jo_endOfHop_120 rfl ?_
      refine sx_iload_n (pc2 := 124) hX 1 d_Jo_endOfHop_123 rfl rfl rfl ?_
      obtain ⟨hc4, h⟩ := h
      refine sx_iast (pc2 := 125) hX (hK 36 0 0 (by decide) (by decide)) (fun _ => rfl) hc4 d_Jo_endOfHop_124 rfl ?_
      refine sx_nm (fun σ5 e5 => ?_)
      replace h := h σ5 e5
      refine sx_aload_n (pc2 := 126) hX 0 d_Jo_endOfHop_125 rfl rfl rfl ?_
      refine sx_dup (pc2 := 127) hX d_Jo_endOfHop_126 rfl rfl ?_
      refine fg_Jo_22 (pc2 := 130) hX (hK 34 0 0 (by decide) (by decide)) d_Jo_endOfHop_127 rfl ?_
      refine sx_iconst (v := 1) (pc2 := 131) hX d_Jo_endOfHop_130 (by decide) rfl ?_
      refine sx_iadd (pc2 := 132) hX d_Jo_endOfHop_131 rfl ?_
      refine fp_Jo_22 (pc2 := 135) hX (hK 34 0 0 (by decide) (by decide)) d_Jo_endOfHop_132 rfl ?_
      refine sx_nm (fun σ6 e6 => ?_)
      replace h := h σ6 e6
      refine sx_sub [(0, .ref (K.2.2.1 34 0 0))] [0] rfl ?_
      exact g_Jo_endOfHop_b135 hX hK hE   _ _ h
set_option maxRecDepth 100000 in
set_option maxHeartbeats 4000000 in
theorem c_Jo_endOfHop {l : Launch} {K : sx_K} (hK : kx_C K) (x1 : Int32) (x2 : Int32) (x3 : Int32) (σ : sx_M) (τ : sx_L) (Q : Int32 → sx_M → Prop)  (h : wp_Jo_endOfHop x1 x2 x3 σ Q) : Met l y_Jo_endOfHop (sx_wd y_Jo_endOfHop prog_3_method_4_code 6 (some .int)) rm_Jo_endOfHop (sx_Pc K [.ref (K.2.2.1 34 0 0), .int x1, .int x2, .int x3] σ τ) (sx_Qi K (fun r σ _ => Q r σ)) 0 0 (sx_A K) := by
  refine sx_met (by decide) (Nat.le_of_ble_eq_true rfl) (fun X hX hE => ?_)
  replace hX : sx_C X K prog_3_method_4_code 6 "SensorTree$Journey" (some .int) rm_Jo_endOfHop l := hX
  show sx_G X K 6 0 [(0, .ref (K.2.2.1 34 0 0)), (1, .int x1), (2, .int x2), (3, .int x3)] [] (sx_H K σ τ)
  unfold wp_Jo_endOfHop at h
  refine sx_aload_n (pc2 := 1) hX 0 d_Jo_endOfHop_0 rfl rfl rfl ?_
  refine fg_Jo_31 (pc2 := 4) hX (hK 34 0 0 (by decide) (by decide)) d_Jo_endOfHop_1 rfl ?_
  refine sx_iload_n (pc2 := 5) hX 1 d_Jo_endOfHop_4 rfl rfl rfl ?_
  refine sx_iload_n (pc2 := 6) hX 2 d_Jo_endOfHop_5 rfl rfl rfl ?_
  refine cl_Jo_57 (pc2 := 9) hX hK h (by decide) ⟨Nat.le_of_ble_eq_true rfl, Nat.le_of_ble_eq_true rfl⟩ (Nat.le_of_ble_eq_true rfl) d_Jo_endOfHop_6 rfl (fun r7 σ7 τ7 h => ?_)
  refine sx_if_ne (tgt := 14) (pc2 := 12) hX d_Jo_endOfHop_9 (by decide) rfl (fun hc8 => ?_) (fun hc8 => ?_)
  · replace h := sx_f h hc8
    refine sx_aload_n (pc2 := 15) hX 0 d_Jo_endOfHop_14 rfl rfl rfl ?_
    refine fg_Jo_15 (pc2 := 18) hX (hK 34 0 0 (by decide) (by decide)) d_Jo_endOfHop_15 rfl ?_
    refine sx_bipush (v := 20) (pc2 := 20) hX d_Jo_endOfHop_18 (by decide) rfl ?_
    refine sx_icmp_lt (tgt := 26) (pc2 := 23) hX d_Jo_endOfHop_20 (by decide) rfl (fun hc9 => ?_) (fun hc9 => ?_)
    · replace h := sx_t h hc9
      refine sx_aload_n (pc2 := 27) hX 0 d_Jo_endOfHop_26 rfl rfl rfl ?_
      refine fg_Jo_11 (pc2 := 30) hX (hK 34 0 0 (by decide) (by decide)) d_Jo_endOfHop_27 rfl ?_
      refine sx_aload_n (pc2 := 31) hX 0 d_Jo_endOfHop_30 rfl rfl rfl ?_
      refine fg_Jo_15 (pc2 := 34) hX (hK 34 0 0 (by decide) (by decide)) d_Jo_endOfHop_31 rfl ?_
      refine sx_iload_n (pc2 := 35) hX 2 d_Jo_endOfHop_34 rfl rfl rfl ?_
      obtain ⟨hc10, h⟩ := h
      refine sx_iast (pc2 := 36) hX (hK 35 0 0 (by decide) (by decide)) (fun _ => rfl) hc10 d_Jo_endOfHop_35 rfl ?_
      refine sx_nm (fun σ11 e11 => ?_)
      replace h := h σ11 e11
      refine sx_aload_n (pc2 := 37) hX 0 d_Jo_endOfHop_36 rfl rfl rfl ?_
      refine sx_dup (pc2 := 38) hX d_Jo_endOfHop_37 rfl rfl ?_
      refine fg_Jo_15 (pc2 := 41) hX (hK 34 0 0 (by decide) (by decide)) d_Jo_endOfHop_38 rfl ?_
      refine sx_iconst (v := 1) (pc2 := 42) hX d_Jo_endOfHop_41 (by decide) rfl ?_
      refine sx_iadd (pc2 := 43) hX d_Jo_endOfHop_42 rfl ?_
      refine fp_Jo_15 (pc2 := 46) hX (hK 34 0 0 (by decide) (by decide)) d_Jo_endOfHop_43 rfl ?_
      refine sx_nm (fun σ12 e12 => ?_)
      replace h := h σ12 e12
      refine sx_aload_n (pc2 := 47) hX 0 d_Jo_endOfHop_46 rfl rfl rfl ?_
      refine fg_Jo_31 (pc2 := 50) hX (hK 34 0 0 (by decide) (by decide)) d_Jo_endOfHop_47 rfl ?_
      refine fg_Jo_35 (pc2 := 53) hX (hK 16 0 0 (by decide) (by decide)) d_Jo_endOfHop_50 rfl ?_
      refine sx_iload_n (pc2 := 54) hX 2 d_Jo_endOfHop_53 rfl rfl rfl ?_
      obtain ⟨hc13, h⟩ := h
      refine sx_aald (a := K.2.2.1 27 0 x2.toNatClampNeg) (pc2 := 55) hX (hK 17 0 0 (by decide) (by decide)) 4 rfl rfl rfl hc13 d_Jo_endOfHop_54 rfl ?_
      refine fg_Jo_61 (pc2 := 58) hX (hK 27 0 x2.toNatClampNeg (by decide) (sx_lt hc13)) d_Jo_endOfHop_55 rfl ?_
      refine sx_aload_n (pc2 := 59) hX 0 d_Jo_endOfHop_58 rfl rfl rfl ?_
      refine fg_Jo_31 (pc2 := 62) hX (hK 34 0 0 (by decide) (by decide)) d_Jo_endOfHop_59 rfl ?_
      refine fg_Jo_35 (pc2 := 65) hX (hK 16 0 0 (by decide) (by decide)) d_Jo_endOfHop_62 rfl ?_
      refine sx_iload_n (pc2 := 66) hX 1 d_Jo_endOfHop_65 rfl rfl rfl ?_
      obtain ⟨hc14, h⟩ := h
      refine sx_aald (a := K.2.2.1 27 0 x1.toNatClampNeg) (pc2 := 67) hX (hK 17 0 0 (by decide) (by decide)) 4 rfl rfl rfl hc14 d_Jo_endOfHop_66 rfl ?_
      refine fg_Jo_61 (pc2 := 70) hX (hK 27 0 x1.toNatClampNeg (by decide) (sx_lt hc14)) d_Jo_endOfHop_67 rfl ?_
      refine sx_isub (pc2 := 71) hX d_Jo_endOfHop_70 rfl ?_
      refine sx_istore (pc2 := 73) hX _ [(0, .ref (K.2.2.1 34 0 0)), (1, .int x1), (2, .int x2), (3, .int x3), (4, .int ((σ12 27 0 x2.toNatClampNeg 2) - (σ12 27 0 x1.toNatClampNeg 2)))] [1, 2, 3, 4, 0] d_Jo_endOfHop_71 (by decide) rfl rfl rfl ?_
      refine sx_iload_n (pc2 := 74) hX 3 d_Jo_endOfHop_73 rfl rfl rfl ?_
      refine sx_if_eq (tgt := 90) (pc2 := 77) hX d_Jo_endOfHop_74 (by decide) rfl (fun hc15 => ?_) (fun hc15 => ?_)
      · replace h := sx_t h hc15
        refine sx_iload (pc2 := 92) hX 4 d_Jo_endOfHop_90 rfl rfl ?_
        refine sx_if_lt (tgt := 99) (pc2 := 95) hX d_Jo_endOfHop_92 (by decide) rfl (fun hc16 => ?_) (fun hc16 => ?_)
        · replace h := sx_t h hc16
          refine sx_iconst (v := 0) (pc2 := 100) hX d_Jo_endOfHop_99 (by decide) rfl ?_
          refine sx_sub [(0, .ref (K.2.2.1 34 0 0)), (2, .int x2)] [0, 2] rfl ?_
          exact g_Jo_endOfHop_b100 hX hK hE   x2 0 _ _ h
        · replace h := sx_f h hc16
          refine sx_iconst (v := 1) (pc2 := 96) hX d_Jo_endOfHop_95 (by decide) rfl ?_
          refine sx_goto (tgt := 100) hX d_Jo_endOfHop_96 (by decide) ?_
          refine sx_sub [(0, .ref (K.2.2.1 34 0 0)), (2, .int x2)] [0, 2] rfl ?_
          exact g_Jo_endOfHop_b100 hX hK hE   x2 1 _ _ h
      · replace h := sx_f h hc15
        refine sx_iload (pc2 := 79) hX 4 d_Jo_endOfHop_77 rfl rfl ?_
        refine sx_if_gt (tgt := 86) (pc2 := 82) hX d_Jo_endOfHop_79 (by decide) rfl (fun hc17 => ?_) (fun hc17 => ?_)
        · replace h := sx_t h hc17
          refine sx_iconst (v := 0) (pc2 := 87) hX d_Jo_endOfHop_86 (by decide) rfl ?_
          refine sx_goto (tgt := 100) hX d_Jo_endOfHop_87 (by decide) ?_
          refine sx_sub [(0, .ref (K.2.2.1 34 0 0)), (2, .int x2)] [0, 2] rfl ?_
          exact g_Jo_endOfHop_b100 hX hK hE   x2 0 _ _ h
        · replace h := sx_f h hc17
          refine sx_iconst (v := 1) (pc2 := 83) hX d_Jo_endOfHop_82 (by decide) rfl ?_
          refine sx_goto (tgt := 100) hX d_Jo_endOfHop_83 (by decide) ?_
          refine sx_sub [(0, .ref (K.2.2.1 34 0 0)), (2, .int x2)] [0, 2] rfl ?_
          exact g_Jo_endOfHop_b100 hX hK hE   x2 1 _ _ h
    · replace h := sx_f h hc9
      refine sx_bipush (v := 6) (pc2 := 25) hX d_Jo_endOfHop_23 (by decide) rfl ?_
      exact sx_iret hX hE h d_Jo_endOfHop_25
  · replace h := sx_t h hc8
    refine sx_iconst (v := 3) (pc2 := 13) hX d_Jo_endOfHop_12 (by decide) rfl ?_
    exact sx_iret hX hE h d_Jo_endOfHop_13
theorem cl_Jo_53 {X : sx_T} {K : sx_K} {cc : ByteArray} {nL : Nat} {ret : Option FieldType} {rm : Room} {l : Launch} {pc pc2 : Nat} {lv : List (Nat × Value)} {st : List Value} {σ : sx_M} {τ : sx_L} {x1 : Int32} {x2 : Int32} {x3 : Int32} {Q : Int32 → sx_M → Prop} (hX : sx_C X K cc nL "SensorTree$Journey" ret rm l) (hK : kx_C K) (h : wp_Jo_endOfHop x1 x2 x3 σ Q)  (hR : rm_Jo_endOfHop.frames + 1 ≤ rm.frames ∧ 8 + (6 + 11) + rm_Jo_endOfHop.locals ≤ rm.locals) (hst : (st.map fun v => v.category).sum ≤ 8) (hd : decode cc pc = .ok (.invokevirtual 53, 3)) (hpc : pc + 3 = pc2) (kk : ∀ (r : Int32) (σ2 : sx_M) (τ2 : sx_L), Q r σ2 → sx_G X K nL pc2 lv (.int r :: st) (sx_H K σ2 τ2)) : sx_G X K nL pc lv (.int x3 :: .int x2 :: .int x1 :: .ref (K.2.2.1 34 0 0) :: st) (sx_H K σ τ) :=
  sx_callVi (Q := fun r σ _ => Q r σ) (As := [.int x1, .int x2, .int x3]) hX (c_Jo_endOfHop hK x1 x2 x3 σ τ Q  h) (hK 34 0 0 (by decide) (by decide)) rfl rfl lk_117 ls_33 hy_Jo_endOfHop lk_115 lk_114 lk_116 ⟨rfl, rfl⟩ hR hst rfl hd hpc kk
def y_Jo_go : MethodName := ⟨"SensorTree$Journey", "go", "(II)V"⟩
theorem hy_Jo_go : y_Jo_go.cls ≠ "java/lang/invoke/MethodHandle" ∧ y_Jo_go.cls ≠ "java/lang/invoke/VarHandle" ∧ (parseMethodDescriptor y_Jo_go.desc).map (fun d => d.parameters.length) = some 2 := by decide +kernel
theorem d_Jo_go_0 : decode prog_3_method_2_code 0 = .ok (.aload_n 0, 1) := by decide +kernel
theorem d_Jo_go_1 : decode prog_3_method_2_code 1 = .ok (.iconst 0, 1) := by decide +kernel
theorem d_Jo_go_2 : decode prog_3_method_2_code 2 = .ok (.putfield 15, 3) := by decide +kernel
theorem d_Jo_go_5 : decode prog_3_method_2_code 5 = .ok (.aload_n 0, 1) := by decide +kernel
theorem d_Jo_go_6 : decode prog_3_method_2_code 6 = .ok (.iconst 0, 1) := by decide +kernel
theorem d_Jo_go_7 : decode prog_3_method_2_code 7 = .ok (.putfield 22, 3) := by decide +kernel
theorem d_Jo_go_10 : decode prog_3_method_2_code 10 = .ok (.aload_n 0, 1) := by decide +kernel
theorem d_Jo_go_11 : decode prog_3_method_2_code 11 = .ok (.iload_n 1, 1) := by decide +kernel
theorem d_Jo_go_12 : decode prog_3_method_2_code 12 = .ok (.putfield 28, 3) := by decide +kernel
theorem d_Jo_go_15 : decode prog_3_method_2_code 15 = .ok (.iload_n 1, 1) := by decide +kernel
theorem d_Jo_go_16 : decode prog_3_method_2_code 16 = .ok (.istore_n 3, 1) := by decide +kernel
theorem d_Jo_go_17 : decode prog_3_method_2_code 17 = .ok (.iconst 0, 1) := by decide +kernel
theorem d_Jo_go_18 : decode prog_3_method_2_code 18 = .ok (.istore 4, 2) := by decide +kernel
theorem d_Jo_go_20 : decode prog_3_method_2_code 20 = .ok (.iconst 0, 1) := by decide +kernel
theorem d_Jo_go_21 : decode prog_3_method_2_code 21 = .ok (.istore 5, 2) := by decide +kernel
theorem d_Jo_go_23 : decode prog_3_method_2_code 23 = .ok (.iload 5, 2) := by decide +kernel
theorem d_Jo_go_25 : decode prog_3_method_2_code 25 = .ok (.bipush 20, 2) := by decide +kernel
theorem d_Jo_go_27 : decode prog_3_method_2_code 27 = .ok (.if_icmp .gt 131, 3) := by decide +kernel
theorem d_Jo_go_30 : decode prog_3_method_2_code 30 = .ok (.aload_n 0, 1) := by decide +kernel
theorem d_Jo_go_31 : decode prog_3_method_2_code 31 = .ok (.getfield 31, 3) := by decide +kernel
theorem d_Jo_go_34 : decode prog_3_method_2_code 34 = .ok (.getfield 35, 3) := by decide +kernel
theorem d_Jo_go_37 : decode prog_3_method_2_code 37 = .ok (.iload_n 3, 1) := by decide +kernel
theorem d_Jo_go_38 : decode prog_3_method_2_code 38 = .ok (.aaload, 1) := by decide +kernel
theorem d_Jo_go_39 : decode prog_3_method_2_code 39 = .ok (.getfield 41, 3) := by decide +kernel
theorem d_Jo_go_42 : decode prog_3_method_2_code 42 = .ok (.iload_n 2, 1) := by decide +kernel
theorem d_Jo_go_43 : decode prog_3_method_2_code 43 = .ok (.iaload, 1) := by decide +kernel
theorem d_Jo_go_44 : decode prog_3_method_2_code 44 = .ok (.bipush (-2), 2) := by decide +kernel
theorem d_Jo_go_46 : decode prog_3_method_2_code 46 = .ok (.if_icmp .eq 7, 3) := by decide +kernel
theorem d_Jo_go_49 : decode prog_3_method_2_code 49 = .ok (.iconst 1, 1) := by decide +kernel
theorem d_Jo_go_50 : decode prog_3_method_2_code 50 = .ok (.goto 4, 3) := by decide +kernel
theorem d_Jo_go_53 : decode prog_3_method_2_code 53 = .ok (.iconst 0, 1) := by decide +kernel
theorem d_Jo_go_54 : decode prog_3_method_2_code 54 = .ok (.istore 6, 2) := by decide +kernel
theorem d_Jo_go_56 : decode prog_3_method_2_code 56 = .ok (.aload_n 0, 1) := by decide +kernel
theorem d_Jo_go_57 : decode prog_3_method_2_code 57 = .ok (.aload_n 0, 1) := by decide +kernel
theorem d_Jo_go_58 : decode prog_3_method_2_code 58 = .ok (.iload_n 3, 1) := by decide +kernel
theorem d_Jo_go_59 : decode prog_3_method_2_code 59 = .ok (.iload 6, 2) := by decide +kernel
theorem d_Jo_go_61 : decode prog_3_method_2_code 61 = .ok (.iload 4, 2) := by decide +kernel
theorem d_Jo_go_63 : decode prog_3_method_2_code 63 = .ok (.invokevirtual 46, 3) := by decide +kernel
theorem d_Jo_go_66 : decode prog_3_method_2_code 66 = .ok (.putfield 25, 3) := by decide +kernel
theorem d_Jo_go_69 : decode prog_3_method_2_code 69 = .ok (.aload_n 0, 1) := by decide +kernel
theorem d_Jo_go_70 : decode prog_3_method_2_code 70 = .ok (.getfield 25, 3) := by decide +kernel
theorem d_Jo_go_73 : decode prog_3_method_2_code 73 = .ok (.ifCond .eq 4, 3) := by decide +kernel
theorem d_Jo_go_76 : decode prog_3_method_2_code 76 = .ok (.return_, 1) := by decide +kernel
theorem d_Jo_go_77 : decode prog_3_method_2_code 77 = .ok (.iload 6, 2) := by decide +kernel
theorem d_Jo_go_79 : decode prog_3_method_2_code 79 = .ok (.ifCond .eq 20, 3) := by decide +kernel
theorem d_Jo_go_82 : decode prog_3_method_2_code 82 = .ok (.aload_n 0, 1) := by decide +kernel
theorem d_Jo_go_83 : decode prog_3_method_2_code 83 = .ok (.getfield 31, 3) := by decide +kernel
theorem d_Jo_go_86 : decode prog_3_method_2_code 86 = .ok (.getfield 35, 3) := by decide +kernel
theorem d_Jo_go_89 : decode prog_3_method_2_code 89 = .ok (.iload_n 3, 1) := by decide +kernel
theorem d_Jo_go_90 : decode prog_3_method_2_code 90 = .ok (.aaload, 1) := by decide +kernel
theorem d_Jo_go_91 : decode prog_3_method_2_code 91 = .ok (.getfield 41, 3) := by decide +kernel
theorem d_Jo_go_94 : decode prog_3_method_2_code 94 = .ok (.iload_n 2, 1) := by decide +kernel
theorem d_Jo_go_95 : decode prog_3_method_2_code 95 = .ok (.iaload, 1) := by decide +kernel
theorem d_Jo_go_96 : decode prog_3_method_2_code 96 = .ok (.goto 15, 3) := by decide +kernel
theorem d_Jo_go_99 : decode prog_3_method_2_code 99 = .ok (.aload_n 0, 1) := by decide +kernel
theorem d_Jo_go_100 : decode prog_3_method_2_code 100 = .ok (.getfield 31, 3) := by decide +kernel
theorem d_Jo_go_103 : decode prog_3_method_2_code 103 = .ok (.getfield 35, 3) := by decide +kernel
theorem d_Jo_go_106 : decode prog_3_method_2_code 106 = .ok (.iload_n 3, 1) := by decide +kernel
theorem d_Jo_go_107 : decode prog_3_method_2_code 107 = .ok (.aaload, 1) := by decide +kernel
theorem d_Jo_go_108 : decode prog_3_method_2_code 108 = .ok (.getfield 50, 3) := by decide +kernel
theorem d_Jo_go_111 : decode prog_3_method_2_code 111 = .ok (.istore 7, 2) := by decide +kernel
theorem d_Jo_go_113 : decode prog_3_method_2_code 113 = .ok (.iload 6, 2) := by decide +kernel
theorem d_Jo_go_115 : decode prog_3_method_2_code 115 = .ok (.istore 4, 2) := by decide +kernel
theorem d_Jo_go_117 : decode prog_3_method_2_code 117 = .ok (.aload_n 0, 1) := by decide +kernel
theorem d_Jo_go_118 : decode prog_3_method_2_code 118 = .ok (.aload_n 0, 1) := by decide +kernel
theorem d_Jo_go_119 : decode prog_3_method_2_code 119 = .ok (.iload_n 3, 1) := by decide +kernel
theorem d_Jo_go_120 : decode prog_3_method_2_code 120 = .ok (.iload 7, 2) := by decide +kernel
theorem d_Jo_go_122 : decode prog_3_method_2_code 122 = .ok (.iload 4, 2) := by decide +kernel
theorem d_Jo_go_124 : decode prog_3_method_2_code 124 = .ok (.invokevirtual 53, 3) := by decide +kernel
theorem d_Jo_go_127 : decode prog_3_method_2_code 127 = .ok (.putfield 25, 3) := by decide +kernel
theorem d_Jo_go_130 : decode prog_3_method_2_code 130 = .ok (.aload_n 0, 1) := by decide +kernel
theorem d_Jo_go_131 : decode prog_3_method_2_code 131 = .ok (.getfield 25, 3) := by decide +kernel
theorem d_Jo_go_134 : decode prog_3_method_2_code 134 = .ok (.ifCond .ne 9, 3) := by decide +kernel
theorem d_Jo_go_137 : decode prog_3_method_2_code 137 = .ok (.iload 7, 2) := by decide +kernel
theorem d_Jo_go_139 : decode prog_3_method_2_code 139 = .ok (.iload_n 2, 1) := by decide +kernel
theorem d_Jo_go_140 : decode prog_3_method_2_code 140 = .ok (.if_icmp .ne 4, 3) := by decide +kernel
theorem d_Jo_go_143 : decode prog_3_method_2_code 143 = .ok (.return_, 1) := by decide +kernel
theorem d_Jo_go_144 : decode prog_3_method_2_code 144 = .ok (.aload_n 0, 1) := by decide +kernel
theorem d_Jo_go_145 : decode prog_3_method_2_code 145 = .ok (.iload_n 3, 1) := by decide +kernel
theorem d_Jo_go_146 : decode prog_3_method_2_code 146 = .ok (.putfield 28, 3) := by decide +kernel
theorem d_Jo_go_149 : decode prog_3_method_2_code 149 = .ok (.iload 7, 2) := by decide +kernel
theorem d_Jo_go_151 : decode prog_3_method_2_code 151 = .ok (.istore_n 3, 1) := by decide +kernel
theorem d_Jo_go_152 : decode prog_3_method_2_code 152 = .ok (.iinc 5 1, 3) := by decide +kernel
theorem d_Jo_go_155 : decode prog_3_method_2_code 155 = .ok (.goto (-132), 3) := by decide +kernel
theorem d_Jo_go_158 : decode prog_3_method_2_code 158 = .ok (.return_, 1) := by decide +kernel
def wp_Jo_go_b143   (Q : sx_M → Prop)  (σ : sx_M) : Prop := Q σ
def wp_Jo_go_b111  (k23 : Int32 → Int32 → Int32 → Int32 → sx_M → Prop) (Q : sx_M → Prop) (v2 : Int32) (v3 : Int32) (v5 : Int32) (v6 : Int32) (w0 : Int32) (σ : sx_M) : Prop := wp_Jo_endOfHop v3 w0 v6 σ (fun r1 σ1 => ∀ σ2 : sx_M, σ2 = sx_u σ1 34 0 0 5 r1 → (if σ2 34 0 0 5 = 0 then (if w0 = v2 then (wp_Jo_go_b143 Q σ2) else (∀ σ5 : sx_M, σ5 = sx_u σ2 34 0 0 6 v3 → (k23 v2 w0 v6 (v5 + 1) σ5))) else (wp_Jo_go_b143 Q σ2)))
def wp_Jo_go_b54  (k23 : Int32 → Int32 → Int32 → Int32 → sx_M → Prop) (Q : sx_M → Prop) (v2 : Int32) (v3 : Int32) (v4 : Int32) (v5 : Int32) (w0 : Int32) (σ : sx_M) : Prop := wp_Jo_endAt v3 w0 v4 σ (fun r6 σ6 => ∀ σ7 : sx_M, σ7 = sx_u σ6 34 0 0 5 r6 → (if σ7 34 0 0 5 = 0 then (if w0 = 0 then (vp_in v3 7 ∧ (wp_Jo_go_b111 k23 Q v2 v3 v5 w0 (σ7 27 0 v3.toNatClampNeg 3) σ7)) else (vp_in v3 7 ∧ (vp_in v2 7 ∧ (wp_Jo_go_b111 k23 Q v2 v3 v5 w0 (σ7 29 0 v3.toNatClampNeg v2.toNatClampNeg) σ7)))) else (Q σ7)))
def wp_Jo_go_b23   (Q : sx_M → Prop) : Nat → Int32 → Int32 → Int32 → Int32 → sx_M → Prop
  | 0, _, _, _, _, _ => False
  | f + 1, v2, v3, v4, v5, σ => if 20 < v5 then (Q σ) else (vp_in v3 7 ∧ (vp_in v2 7 ∧ (if σ 29 0 v3.toNatClampNeg v2.toNatClampNeg = (-2) then (wp_Jo_go_b54 (wp_Jo_go_b23 Q f) Q v2 v3 v4 v5 0 σ) else (wp_Jo_go_b54 (wp_Jo_go_b23 Q f) Q v2 v3 v4 v5 1 σ))))
def wp_Jo_go (x1 : Int32) (x2 : Int32) (σ : sx_M) (Q : sx_M → Prop) : Prop := ∀ σ17 : sx_M, σ17 = sx_u σ 34 0 0 2 0 → (∀ σ18 : sx_M, σ18 = sx_u σ17 34 0 0 4 0 → (∀ σ19 : sx_M, σ19 = sx_u σ18 34 0 0 6 x1 → (∃ f23, wp_Jo_go_b23 Q f23 x2 x1 0 0 σ19)))
abbrev rm_Jo_go : Room := { frames := 2, cells := 0, slots := 0, locals := 48 }
set_option maxRecDepth 100000 in
set_option maxHeartbeats 4000000 in
theorem g_Jo_go_b143 {l : Launch} {K : sx_K} {X : sx_T}   {Q : sx_M → Prop} (hX : sx_C X K prog_3_method_2_code 8 "SensorTree$Journey" none rm_Jo_go l) (hK : kx_C K) (hE : sx_E X K (sx_Qv K (fun σ _ => Q σ)))   (σ : sx_M) (τ : sx_L)  (h : wp_Jo_go_b143 Q  σ) : sx_G X K 8 143 [] [] (sx_H K σ τ) := by
  unfold wp_Jo_go_b143 at h
  exact sx_vret hX hE h d_Jo_go_143
set_option maxRecDepth 100000 in
set_option maxHeartbeats 4000000 in
theorem g_Jo_go_b111 {l : Launch} {K : sx_K} {X : sx_T}  {k23 : Int32 → Int32 → Int32 → Int32 → sx_M → Prop} {Q : sx_M → Prop} (hX : sx_C X K prog_3_method_2_code 8 "SensorTree$Journey" none rm_Jo_go l) (hK : kx_C K) (hE : sx_E X K (sx_Qv K (fun σ _ => Q σ)))  (hk23 : ∀ (v2 : Int32) (v3 : Int32) (v4 : Int32) (v5 : Int32) (σ : sx_M) (τ : sx_L) , k23 v2 v3 v4 v5 σ → sx_G X K 8 23 [(0, .ref (K.2.2.1 34 0 0)), (2, .int v2), (3, .int v3), (4, .int v4), (5, .int v5)] [] (sx_H K σ τ)) (v2 : Int32) (v3 : Int32) (v5 : Int32) (v6 : Int32) (w0 : Int32) (σ : sx_M) (τ : sx_L)  (h : wp_Jo_go_b111 k23 Q  v2 v3 v5 v6 w0 σ) : sx_G X K 8 111 [(0, .ref (K.2.2.1 34 0 0)), (2, .int v2), (3, .int v3), (5, .int v5), (6, .int v6)] [.int w0] (sx_H K σ τ) := by
  unfold wp_Jo_go_b111 at h
  refine sx_istore (pc2 := 113) hX _ [(0, .ref (K.2.2.1 34 0 0)), (2, .int v2), (3, .int v3), (5, .int v5), (6, .int v6), (7, .int w0)] [1, 2, 3, 4, 5, 0] d_Jo_go_111 (by decide) rfl rfl rfl ?_
  refine sx_iload (pc2 := 115) hX 4 d_Jo_go_113 rfl rfl ?_
  refine sx_istore (pc2 := 117) hX _ [(0, .ref (K.2.2.1 34 0 0)), (2, .int v2), (3, .int v3), (4, .int v6), (5, .int v5), (6, .int v6), (7, .int w0)] [1, 2, 3, 0, 4, 5, 6] d_Jo_go_115 (by decide) rfl rfl rfl ?_
  refine sx_aload_n (pc2 := 118) hX 0 d_Jo_go_117 rfl rfl rfl ?_
  refine sx_aload_n (pc2 := 119) hX 0 d_Jo_go_118 rfl rfl rfl ?_
  refine sx_iload_n (pc2 := 120) hX 2 d_Jo_go_119 rfl rfl rfl ?_
  refine sx_iload (pc2 := 122) hX 6 d_Jo_go_120 rfl rfl ?_
  refine sx_iload (pc2 := 124) hX 3 d_Jo_go_122 rfl rfl ?_
  refine cl_Jo_53 (pc2 := 127) hX hK h  ⟨Nat.le_of_ble_eq_true rfl, Nat.le_of_ble_eq_true rfl⟩ (Nat.le_of_ble_eq_true rfl) d_Jo_go_124 rfl (fun r1 σ1 τ1 h => ?_)
  refine fp_Jo_25 (pc2 := 130) hX (hK 34 0 0 (by decide) (by decide)) d_Jo_go_127 rfl ?_
  refine sx_nm (fun σ2 e2 => ?_)
  replace h := h σ2 e2
  refine sx_aload_n (pc2 := 131) hX 0 d_Jo_go_130 rfl rfl rfl ?_
  refine fg_Jo_25 (pc2 := 134) hX (hK 34 0 0 (by decide) (by decide)) d_Jo_go_131 rfl ?_
  refine sx_if_ne (tgt := 143) (pc2 := 137) hX d_Jo_go_134 (by decide) rfl (fun hc3 => ?_) (fun hc3 => ?_)
  · replace h := sx_f h hc3
    refine sx_sub [] [] rfl ?_
    exact g_Jo_go_b143 hX hK hE   _ _ h
  · replace h := sx_t h hc3
    refine sx_iload (pc2 := 139) hX 6 d_Jo_go_137 rfl rfl ?_
    refine sx_iload_n (pc2 := 140) hX 1 d_Jo_go_139 rfl rfl rfl ?_
    refine sx_icmp_ne (tgt := 144) (pc2 := 143) hX d_Jo_go_140 (by decide) rfl (fun hc4 => ?_) (fun hc4 => ?_)
    · replace h := sx_f h hc4
      refine sx_aload_n (pc2 := 145) hX 0 d_Jo_go_144 rfl rfl rfl ?_
      refine sx_iload_n (pc2 := 146) hX 2 d_Jo_go_145 rfl rfl rfl ?_
      refine fp_Jo_28 (pc2 := 149) hX (hK 34 0 0 (by decide) (by decide)) d_Jo_go_146 rfl ?_
      refine sx_nm (fun σ5 e5 => ?_)
      replace h := h σ5 e5
      refine sx_iload (pc2 := 151) hX 6 d_Jo_go_149 rfl rfl ?_
      refine sx_istore_n (pc2 := 152) hX _ [(0, .ref (K.2.2.1 34 0 0)), (2, .int v2), (3, .int w0), (4, .int v6), (5, .int v5), (6, .int v6), (7, .int w0)] [1, 2, 0, 3, 4, 5, 6] d_Jo_go_151 rfl (by decide) rfl rfl rfl ?_
      refine sx_iinc (pc2 := 155) hX 4 _ [(0, .ref (K.2.2.1 34 0 0)), (2, .int v2), (3, .int w0), (4, .int v6), (5, .int (v5 + 1)), (6, .int v6), (7, .int w0)] [1, 2, 3, 4, 0, 5, 6] d_Jo_go_152 rfl (v5 + 1) rfl (by decide) rfl rfl rfl ?_
      refine sx_goto (tgt := 23) hX d_Jo_go_155 (by decide) ?_
      refine sx_sub [(0, .ref (K.2.2.1 34 0 0)), (2, .int v2), (3, .int w0), (4, .int v6), (5, .int (v5 + 1))] [0, 1, 2, 3, 4] rfl ?_
      exact hk23 v2 w0 v6 (v5 + 1) _ _ h
    · replace h := sx_t h hc4
      refine sx_sub [] [] rfl ?_
      exact g_Jo_go_b143 hX hK hE   _ _ h
set_option maxRecDepth 100000 in
set_option maxHeartbeats 4000000 in
theorem g_Jo_go_b54 {l : Launch} {K : sx_K} {X : sx_T}  {k23 : Int32 → Int32 → Int32 → Int32 → sx_M → Prop} {Q : sx_M → Prop} (hX : sx_C X K prog_3_method_2_code 8 "SensorTree$Journey" none rm_Jo_go l) (hK : kx_C K) (hE : sx_E X K (sx_Qv K (fun σ _ => Q σ)))  (hk23 : ∀ (v2 : Int32) (v3 : Int32) (v4 : Int32) (v5 : Int32) (σ : sx_M) (τ : sx_L) , k23 v2 v3 v4 v5 σ → sx_G X K 8 23 [(0, .ref (K.2.2.1 34 0 0)), (2, .int v2), (3, .int v3), (4, .int v4), (5, .int v5)] [] (sx_H K σ τ)) (v2 : Int32) (v3 : Int32) (v4 : Int32) (v5 : Int32) (w0 : Int32) (σ : sx_M) (τ : sx_L)  (h : wp_Jo_go_b54 k23 Q  v2 v3 v4 v5 w0 σ) : sx_G X K 8 54 [(0, .ref (K.2.2.1 34 0 0)), (2, .int v2), (3, .int v3), (4, .int v4), (5, .int v5)] [.int w0] (sx_H K σ τ) := by
  unfold wp_Jo_go_b54 at h
  refine sx_istore (pc2 := 56) hX _ [(0, .ref (K.2.2.1 34 0 0)), (2, .int v2), (3, .int v3), (4, .int v4), (5, .int v5), (6, .int w0)] [1, 2, 3, 4, 5, 0] d_Jo_go_54 (by decide) rfl rfl rfl ?_
  refine sx_aload_n (pc2 := 57) hX 0 d_Jo_go_56 rfl rfl rfl ?_
  refine sx_aload_n (pc2 := 58) hX 0 d_Jo_go_57 rfl rfl rfl ?_
  refine sx_iload_n (pc2 := 59) hX 2 d_Jo_go_58 rfl rfl rfl ?_
  refine sx_iload (pc2 := 61) hX 5 d_Jo_go_59 rfl rfl ?_
  refine sx_iload (pc2 := 63) hX 3 d_Jo_go_61 rfl rfl ?_
  refine cl_Jo_46 (pc2 := 66) hX hK h  ⟨Nat.le_of_ble_eq_true rfl, Nat.le_of_ble_eq_true rfl⟩ (Nat.le_of_ble_eq_true rfl) d_Jo_go_63 rfl (fun r6 σ6 τ6 h => ?_)
  refine fp_Jo_25 (pc2 := 69) hX (hK 34 0 0 (by decide) (by decide)) d_Jo_go_66 rfl ?_
  refine sx_nm (fun σ7 e7 => ?_)
  replace h := h σ7 e7
  refine sx_aload_n (pc2 := 70) hX 0 d_Jo_go_69 rfl rfl rfl ?_
  refine fg_Jo_25 (pc2 := 73) hX (hK 34 0 0 (by decide) (by decide)) d_Jo_go_70 rfl ?_
  refine sx_if_eq (tgt := 77) (pc2 := 76) hX d_Jo_go_73 (by decide) rfl (fun hc8 => ?_) (fun hc8 => ?_)
  · replace h := sx_t h hc8
    refine sx_iload (pc2 := 79) hX 5 d_Jo_go_77 rfl rfl ?_
    refine sx_if_eq (tgt := 99) (pc2 := 82) hX d_Jo_go_79 (by decide) rfl (fun hc9 => ?_) (fun hc9 => ?_)
    · replace h := sx_t h hc9
      refine sx_aload_n (pc2 := 100) hX 0 d_Jo_go_99 rfl rfl rfl ?_
      refine fg_Jo_31 (pc2 := 103) hX (hK 34 0 0 (by decide) (by decide)) d_Jo_go_100 rfl ?_
      refine fg_Jo_35 (pc2 := 106) hX (hK 16 0 0 (by decide) (by decide)) d_Jo_go_103 rfl ?_
      refine sx_iload_n (pc2 := 107) hX 2 d_Jo_go_106 rfl rfl rfl ?_
      obtain ⟨hc10, h⟩ := h
      refine sx_aald (a := K.2.2.1 27 0 v3.toNatClampNeg) (pc2 := 108) hX (hK 17 0 0 (by decide) (by decide)) 4 rfl rfl rfl hc10 d_Jo_go_107 rfl ?_
      refine fg_Jo_50 (pc2 := 111) hX (hK 27 0 v3.toNatClampNeg (by decide) (sx_lt hc10)) d_Jo_go_108 rfl ?_
      refine sx_sub [(0, .ref (K.2.2.1 34 0 0)), (2, .int v2), (3, .int v3), (5, .int v5), (6, .int w0)] [0, 1, 2, 4, 5] rfl ?_
      exact g_Jo_go_b111 hX hK hE  hk23 v2 v3 v5 w0 (σ7 27 0 v3.toNatClampNeg 3) _ _ h
    · replace h := sx_f h hc9
      refine sx_aload_n (pc2 := 83) hX 0 d_Jo_go_82 rfl rfl rfl ?_
      refine fg_Jo_31 (pc2 := 86) hX (hK 34 0 0 (by decide) (by decide)) d_Jo_go_83 rfl ?_
      refine fg_Jo_35 (pc2 := 89) hX (hK 16 0 0 (by decide) (by decide)) d_Jo_go_86 rfl ?_
      refine sx_iload_n (pc2 := 90) hX 2 d_Jo_go_89 rfl rfl rfl ?_
      obtain ⟨hc11, h⟩ := h
      refine sx_aald (a := K.2.2.1 27 0 v3.toNatClampNeg) (pc2 := 91) hX (hK 17 0 0 (by decide) (by decide)) 4 rfl rfl rfl hc11 d_Jo_go_90 rfl ?_
      refine fg_Jo_41 (pc2 := 94) hX (hK 27 0 v3.toNatClampNeg (by decide) (sx_lt hc11)) d_Jo_go_91 rfl ?_
      refine sx_iload_n (pc2 := 95) hX 1 d_Jo_go_94 rfl rfl rfl ?_
      obtain ⟨hc12, h⟩ := h
      refine sx_iald (pc2 := 96) hX (hK 29 0 v3.toNatClampNeg (by decide) (sx_lt hc11)) rfl hc12 d_Jo_go_95 rfl ?_
      refine sx_goto (tgt := 111) hX d_Jo_go_96 (by decide) ?_
      refine sx_sub [(0, .ref (K.2.2.1 34 0 0)), (2, .int v2), (3, .int v3), (5, .int v5), (6, .int w0)] [0, 1, 2, 4, 5] rfl ?_
      exact g_Jo_go_b111 hX hK hE  hk23 v2 v3 v5 w0 (σ7 29 0 v3.toNatClampNeg v2.toNatClampNeg) _ _ h
  · replace h := sx_f h hc8
    exact sx_vret hX hE h d_Jo_go_76
set_option maxRecDepth 100000 in
set_option maxHeartbeats 4000000 in
theorem g_Jo_go_b23 {l : Launch} {K : sx_K} {X : sx_T}   {Q : sx_M → Prop} (hX : sx_C X K prog_3_method_2_code 8 "SensorTree$Journey" none rm_Jo_go l) (hK : kx_C K) (hE : sx_E X K (sx_Qv K (fun σ _ => Q σ)))  : ∀ (f : Nat) (v2 : Int32) (v3 : Int32) (v4 : Int32) (v5 : Int32) (σ : sx_M) (τ : sx_L) , wp_Jo_go_b23 Q f v2 v3 v4 v5 σ → sx_G X K 8 23 [(0, .ref (K.2.2.1 34 0 0)), (2, .int v2), (3, .int v3), (4, .int v4), (5, .int v5)] [] (sx_H K σ τ) := by
  intro f
  induction f with
  | zero => intro v2 v3 v4 v5 σ τ h; exact (show False from h).elim
  | succ f ih =>
    intro v2 v3 v4 v5 σ τ h
    rw [wp_Jo_go_b23] at h
    refine sx_iload (pc2 := 25) hX 4 d_Jo_go_23 rfl rfl ?_
    refine sx_bipush (v := 20) (pc2 := 27) hX d_Jo_go_25 (by decide) rfl ?_
    refine sx_icmp_gt (tgt := 158) (pc2 := 30) hX d_Jo_go_27 (by decide) rfl (fun hc13 => ?_) (fun hc13 => ?_)
    · replace h := sx_t h hc13
      exact sx_vret hX hE h d_Jo_go_158
    · replace h := sx_f h hc13
      refine sx_aload_n (pc2 := 31) hX 0 d_Jo_go_30 rfl rfl rfl ?_
      refine fg_Jo_31 (pc2 := 34) hX (hK 34 0 0 (by decide) (by decide)) d_Jo_go_31 rfl ?_
      refine fg_Jo_35 (pc2 := 37) hX (hK 16 0 0 (by decide) (by decide)) d_Jo_go_34 rfl ?_
      refine sx_iload_n (pc2 := 38) hX 2 d_Jo_go_37 rfl rfl rfl ?_
      obtain ⟨hc14, h⟩ := h
      refine sx_aald (a := K.2.2.1 27 0 v3.toNatClampNeg) (pc2 := 39) hX (hK 17 0 0 (by decide) (by decide)) 4 rfl rfl rfl hc14 d_Jo_go_38 rfl ?_
      refine fg_Jo_41 (pc2 := 42) hX (hK 27 0 v3.toNatClampNeg (by decide) (sx_lt hc14)) d_Jo_go_39 rfl ?_
      refine sx_iload_n (pc2 := 43) hX 1 d_Jo_go_42 rfl rfl rfl ?_
      obtain ⟨hc15, h⟩ := h
      refine sx_iald (pc2 := 44) hX (hK 29 0 v3.toNatClampNeg (by decide) (sx_lt hc14)) rfl hc15 d_Jo_go_43 rfl ?_
      refine sx_bipush (v := (-2)) (pc2 := 46) hX d_Jo_go_44 (by decide) rfl ?_
      refine sx_icmp_eq (tgt := 53) (pc2 := 49) hX d_Jo_go_46 (by decide) rfl (fun hc16 => ?_) (fun hc16 => ?_)
      · replace h := sx_t h hc16
        refine sx_iconst (v := 0) (pc2 := 54) hX d_Jo_go_53 (by decide) rfl ?_
        exact g_Jo_go_b54 hX hK hE  ih v2 v3 v4 v5 0 _ _ h
      · replace h := sx_f h hc16
        refine sx_iconst (v := 1) (pc2 := 50) hX d_Jo_go_49 (by decide) rfl ?_
        refine sx_goto (tgt := 54) hX d_Jo_go_50 (by decide) ?_
        exact g_Jo_go_b54 hX hK hE  ih v2 v3 v4 v5 1 _ _ h
set_option maxRecDepth 100000 in
set_option maxHeartbeats 4000000 in
theorem c_Jo_go {l : Launch} {K : sx_K} (hK : kx_C K) (x1 : Int32) (x2 : Int32) (σ : sx_M) (τ : sx_L) (Q : sx_M → Prop)  (h : wp_Jo_go x1 x2 σ Q) : Met l y_Jo_go (sx_wd y_Jo_go prog_3_method_2_code 8 none) rm_Jo_go (sx_Pc K [.ref (K.2.2.1 34 0 0), .int x1, .int x2] σ τ) (sx_Qv K (fun σ _ => Q σ)) 0 0 (sx_A K) := by
  refine sx_met (by decide) (Nat.le_of_ble_eq_true rfl) (fun X hX hE => ?_)
  replace hX : sx_C X K prog_3_method_2_code 8 "SensorTree$Journey" none rm_Jo_go l := hX
  show sx_G X K 8 0 [(0, .ref (K.2.2.1 34 0 0)), (1, .int x1), (2, .int x2)] [] (sx_H K σ τ)
  unfold wp_Jo_go at h
  refine sx_aload_n (pc2 := 1) hX 0 d_Jo_go_0 rfl rfl rfl ?_
  refine sx_iconst (v := 0) (pc2 := 2) hX d_Jo_go_1 (by decide) rfl ?_
  refine fp_Jo_15 (pc2 := 5) hX (hK 34 0 0 (by decide) (by decide)) d_Jo_go_2 rfl ?_
  refine sx_nm (fun σ17 e17 => ?_)
  replace h := h σ17 e17
  refine sx_aload_n (pc2 := 6) hX 0 d_Jo_go_5 rfl rfl rfl ?_
  refine sx_iconst (v := 0) (pc2 := 7) hX d_Jo_go_6 (by decide) rfl ?_
  refine fp_Jo_22 (pc2 := 10) hX (hK 34 0 0 (by decide) (by decide)) d_Jo_go_7 rfl ?_
  refine sx_nm (fun σ18 e18 => ?_)
  replace h := h σ18 e18
  refine sx_aload_n (pc2 := 11) hX 0 d_Jo_go_10 rfl rfl rfl ?_
  refine sx_iload_n (pc2 := 12) hX 1 d_Jo_go_11 rfl rfl rfl ?_
  refine fp_Jo_28 (pc2 := 15) hX (hK 34 0 0 (by decide) (by decide)) d_Jo_go_12 rfl ?_
  refine sx_nm (fun σ19 e19 => ?_)
  replace h := h σ19 e19
  refine sx_iload_n (pc2 := 16) hX 1 d_Jo_go_15 rfl rfl rfl ?_
  refine sx_istore_n (pc2 := 17) hX _ [(0, .ref (K.2.2.1 34 0 0)), (1, .int x1), (2, .int x2), (3, .int x1)] [1, 2, 3, 0] d_Jo_go_16 rfl (by decide) rfl rfl rfl ?_
  refine sx_iconst (v := 0) (pc2 := 18) hX d_Jo_go_17 (by decide) rfl ?_
  refine sx_istore (pc2 := 20) hX _ [(0, .ref (K.2.2.1 34 0 0)), (1, .int x1), (2, .int x2), (3, .int x1), (4, .int 0)] [1, 2, 3, 4, 0] d_Jo_go_18 (by decide) rfl rfl rfl ?_
  refine sx_iconst (v := 0) (pc2 := 21) hX d_Jo_go_20 (by decide) rfl ?_
  refine sx_istore (pc2 := 23) hX _ [(0, .ref (K.2.2.1 34 0 0)), (1, .int x1), (2, .int x2), (3, .int x1), (4, .int 0), (5, .int 0)] [1, 2, 3, 4, 5, 0] d_Jo_go_21 (by decide) rfl rfl rfl ?_
  refine sx_sub [(0, .ref (K.2.2.1 34 0 0)), (2, .int x2), (3, .int x1), (4, .int 0), (5, .int 0)] [0, 2, 3, 4, 5] rfl ?_
  obtain ⟨f23, h⟩ := h
  exact g_Jo_go_b23 hX hK hE   f23 x2 x1 0 0 _ _ h
theorem cl_St_172 {X : sx_T} {K : sx_K} {cc : ByteArray} {nL : Nat} {ret : Option FieldType} {rm : Room} {l : Launch} {pc pc2 : Nat} {lv : List (Nat × Value)} {st : List Value} {σ : sx_M} {τ : sx_L} {x1 : Int32} {x2 : Int32} {Q : sx_M → Prop} (hX : sx_C X K cc nL "SensorTree" ret rm l) (hK : kx_C K) (h : wp_Jo_go x1 x2 σ Q)  (hR : rm_Jo_go.frames + 1 ≤ rm.frames ∧ 8 + (8 + 11) + rm_Jo_go.locals ≤ rm.locals) (hst : (st.map fun v => v.category).sum ≤ 8) (hd : decode cc pc = .ok (.invokevirtual 172, 3)) (hpc : pc + 3 = pc2) (kk : ∀ (σ2 : sx_M) (τ2 : sx_L), Q σ2 → sx_G X K nL pc2 lv (st) (sx_H K σ2 τ2)) : sx_G X K nL pc lv (.int x2 :: .int x1 :: .ref (K.2.2.1 34 0 0) :: st) (sx_H K σ τ) :=
  sx_callVv (Q := fun σ _ => Q σ) (As := [.int x1, .int x2]) hX (c_Jo_go hK x1 x2 σ τ Q  h) (hK 34 0 0 (by decide) (by decide)) rfl rfl lk_304 lk_305 hy_Jo_go lk_302 lk_114 lk_303 ⟨rfl, rfl⟩ hR hst rfl hd hpc kk
def y_Po_copyFrom : MethodName := ⟨"SensorTree$Post", "copyFrom", "(LSensorTree$Post;)V"⟩
theorem hy_Po_copyFrom : y_Po_copyFrom.cls ≠ "java/lang/invoke/MethodHandle" ∧ y_Po_copyFrom.cls ≠ "java/lang/invoke/VarHandle" ∧ (parseMethodDescriptor y_Po_copyFrom.desc).map (fun d => d.parameters.length) = some 1 := by decide +kernel
theorem d_Po_copyFrom_0 : decode prog_7_method_4_code 0 = .ok (.aload_n 0, 1) := by decide +kernel
theorem d_Po_copyFrom_1 : decode prog_7_method_4_code 1 = .ok (.aload_n 1, 1) := by decide +kernel
theorem d_Po_copyFrom_2 : decode prog_7_method_4_code 2 = .ok (.getfield 21, 3) := by decide +kernel
theorem d_Po_copyFrom_5 : decode prog_7_method_4_code 5 = .ok (.putfield 21, 3) := by decide +kernel
theorem d_Po_copyFrom_8 : decode prog_7_method_4_code 8 = .ok (.aload_n 0, 1) := by decide +kernel
theorem d_Po_copyFrom_9 : decode prog_7_method_4_code 9 = .ok (.aload_n 1, 1) := by decide +kernel
theorem d_Po_copyFrom_10 : decode prog_7_method_4_code 10 = .ok (.getfield 25, 3) := by decide +kernel
theorem d_Po_copyFrom_13 : decode prog_7_method_4_code 13 = .ok (.putfield 25, 3) := by decide +kernel
theorem d_Po_copyFrom_16 : decode prog_7_method_4_code 16 = .ok (.aload_n 0, 1) := by decide +kernel
theorem d_Po_copyFrom_17 : decode prog_7_method_4_code 17 = .ok (.aload_n 1, 1) := by decide +kernel
theorem d_Po_copyFrom_18 : decode prog_7_method_4_code 18 = .ok (.getfield 29, 3) := by decide +kernel
theorem d_Po_copyFrom_21 : decode prog_7_method_4_code 21 = .ok (.putfield 29, 3) := by decide +kernel
theorem d_Po_copyFrom_24 : decode prog_7_method_4_code 24 = .ok (.aload_n 0, 1) := by decide +kernel
theorem d_Po_copyFrom_25 : decode prog_7_method_4_code 25 = .ok (.aload_n 1, 1) := by decide +kernel
theorem d_Po_copyFrom_26 : decode prog_7_method_4_code 26 = .ok (.getfield 32, 3) := by decide +kernel
theorem d_Po_copyFrom_29 : decode prog_7_method_4_code 29 = .ok (.putfield 32, 3) := by decide +kernel
theorem d_Po_copyFrom_32 : decode prog_7_method_4_code 32 = .ok (.aload_n 0, 1) := by decide +kernel
theorem d_Po_copyFrom_33 : decode prog_7_method_4_code 33 = .ok (.aload_n 1, 1) := by decide +kernel
theorem d_Po_copyFrom_34 : decode prog_7_method_4_code 34 = .ok (.getfield 35, 3) := by decide +kernel
theorem d_Po_copyFrom_37 : decode prog_7_method_4_code 37 = .ok (.putfield 35, 3) := by decide +kernel
theorem d_Po_copyFrom_40 : decode prog_7_method_4_code 40 = .ok (.aload_n 0, 1) := by decide +kernel
theorem d_Po_copyFrom_41 : decode prog_7_method_4_code 41 = .ok (.aload_n 1, 1) := by decide +kernel
theorem d_Po_copyFrom_42 : decode prog_7_method_4_code 42 = .ok (.getfield 38, 3) := by decide +kernel
theorem d_Po_copyFrom_45 : decode prog_7_method_4_code 45 = .ok (.putfield 38, 3) := by decide +kernel
theorem d_Po_copyFrom_48 : decode prog_7_method_4_code 48 = .ok (.aload_n 0, 1) := by decide +kernel
theorem d_Po_copyFrom_49 : decode prog_7_method_4_code 49 = .ok (.aload_n 1, 1) := by decide +kernel
theorem d_Po_copyFrom_50 : decode prog_7_method_4_code 50 = .ok (.getfield 44, 3) := by decide +kernel
theorem d_Po_copyFrom_53 : decode prog_7_method_4_code 53 = .ok (.putfield 44, 3) := by decide +kernel
theorem d_Po_copyFrom_56 : decode prog_7_method_4_code 56 = .ok (.aload_n 0, 1) := by decide +kernel
theorem d_Po_copyFrom_57 : decode prog_7_method_4_code 57 = .ok (.aload_n 1, 1) := by decide +kernel
theorem d_Po_copyFrom_58 : decode prog_7_method_4_code 58 = .ok (.getfield 47, 3) := by decide +kernel
theorem d_Po_copyFrom_61 : decode prog_7_method_4_code 61 = .ok (.putfield 47, 3) := by decide +kernel
theorem d_Po_copyFrom_64 : decode prog_7_method_4_code 64 = .ok (.aload_n 0, 1) := by decide +kernel
theorem d_Po_copyFrom_65 : decode prog_7_method_4_code 65 = .ok (.aload_n 1, 1) := by decide +kernel
theorem d_Po_copyFrom_66 : decode prog_7_method_4_code 66 = .ok (.getfield 50, 3) := by decide +kernel
theorem d_Po_copyFrom_69 : decode prog_7_method_4_code 69 = .ok (.putfield 50, 3) := by decide +kernel
theorem d_Po_copyFrom_72 : decode prog_7_method_4_code 72 = .ok (.aload_n 0, 1) := by decide +kernel
theorem d_Po_copyFrom_73 : decode prog_7_method_4_code 73 = .ok (.aload_n 1, 1) := by decide +kernel
theorem d_Po_copyFrom_74 : decode prog_7_method_4_code 74 = .ok (.getfield 53, 3) := by decide +kernel
theorem d_Po_copyFrom_77 : decode prog_7_method_4_code 77 = .ok (.putfield 53, 3) := by decide +kernel
theorem d_Po_copyFrom_80 : decode prog_7_method_4_code 80 = .ok (.aload_n 0, 1) := by decide +kernel
theorem d_Po_copyFrom_81 : decode prog_7_method_4_code 81 = .ok (.aload_n 1, 1) := by decide +kernel
theorem d_Po_copyFrom_82 : decode prog_7_method_4_code 82 = .ok (.getfield 56, 3) := by decide +kernel
theorem d_Po_copyFrom_85 : decode prog_7_method_4_code 85 = .ok (.putfield 56, 3) := by decide +kernel
theorem d_Po_copyFrom_88 : decode prog_7_method_4_code 88 = .ok (.aload_n 1, 1) := by decide +kernel
theorem d_Po_copyFrom_89 : decode prog_7_method_4_code 89 = .ok (.getfield 9, 3) := by decide +kernel
theorem d_Po_copyFrom_92 : decode prog_7_method_4_code 92 = .ok (.iconst 0, 1) := by decide +kernel
theorem d_Po_copyFrom_93 : decode prog_7_method_4_code 93 = .ok (.aload_n 0, 1) := by decide +kernel
theorem d_Po_copyFrom_94 : decode prog_7_method_4_code 94 = .ok (.getfield 9, 3) := by decide +kernel
theorem d_Po_copyFrom_97 : decode prog_7_method_4_code 97 = .ok (.iconst 0, 1) := by decide +kernel
theorem d_Po_copyFrom_98 : decode prog_7_method_4_code 98 = .ok (.bipush 7, 2) := by decide +kernel
theorem d_Po_copyFrom_100 : decode prog_7_method_4_code 100 = .ok (.invokestatic 59, 3) := by decide +kernel
theorem d_Po_copyFrom_103 : decode prog_7_method_4_code 103 = .ok (.aload_n 1, 1) := by decide +kernel
theorem d_Po_copyFrom_104 : decode prog_7_method_4_code 104 = .ok (.getfield 15, 3) := by decide +kernel
theorem d_Po_copyFrom_107 : decode prog_7_method_4_code 107 = .ok (.iconst 0, 1) := by decide +kernel
theorem d_Po_copyFrom_108 : decode prog_7_method_4_code 108 = .ok (.aload_n 0, 1) := by decide +kernel
theorem d_Po_copyFrom_109 : decode prog_7_method_4_code 109 = .ok (.getfield 15, 3) := by decide +kernel
theorem d_Po_copyFrom_112 : decode prog_7_method_4_code 112 = .ok (.iconst 0, 1) := by decide +kernel
theorem d_Po_copyFrom_113 : decode prog_7_method_4_code 113 = .ok (.bipush 7, 2) := by decide +kernel
theorem d_Po_copyFrom_115 : decode prog_7_method_4_code 115 = .ok (.invokestatic 59, 3) := by decide +kernel
theorem d_Po_copyFrom_118 : decode prog_7_method_4_code 118 = .ok (.aload_n 1, 1) := by decide +kernel
theorem d_Po_copyFrom_119 : decode prog_7_method_4_code 119 = .ok (.getfield 18, 3) := by decide +kernel
theorem d_Po_copyFrom_122 : decode prog_7_method_4_code 122 = .ok (.iconst 0, 1) := by decide +kernel
theorem d_Po_copyFrom_123 : decode prog_7_method_4_code 123 = .ok (.aload_n 0, 1) := by decide +kernel
theorem d_Po_copyFrom_124 : decode prog_7_method_4_code 124 = .ok (.getfield 18, 3) := by decide +kernel
theorem d_Po_copyFrom_127 : decode prog_7_method_4_code 127 = .ok (.iconst 0, 1) := by decide +kernel
theorem d_Po_copyFrom_128 : decode prog_7_method_4_code 128 = .ok (.bipush 7, 2) := by decide +kernel
theorem d_Po_copyFrom_130 : decode prog_7_method_4_code 130 = .ok (.invokestatic 59, 3) := by decide +kernel
theorem d_Po_copyFrom_133 : decode prog_7_method_4_code 133 = .ok (.return_, 1) := by decide +kernel
def wp_Po_copyFrom (n : Nat) (p : Nat) (n1 : Nat) (p1 : Nat) (σ : sx_M) (Q : sx_M → Prop) : Prop := (σ 27 n1 p1 0 = 0 ∨ σ 27 n1 p1 0 = 1) ∧ (∀ σ2 : sx_M, σ2 = sx_u σ 27 n p 0 (σ 27 n1 p1 0) → (∀ σ3 : sx_M, σ3 = sx_u σ2 27 n p 1 (σ2 27 n1 p1 1) → (∀ σ4 : sx_M, σ4 = sx_u σ3 27 n p 2 (σ3 27 n1 p1 2) → (∀ σ5 : sx_M, σ5 = sx_u σ4 27 n p 3 (σ4 27 n1 p1 3) → (∀ σ6 : sx_M, σ6 = sx_u σ5 27 n p 4 (σ5 27 n1 p1 4) → (∀ σ7 : sx_M, σ7 = sx_u σ6 27 n p 5 (σ6 27 n1 p1 5) → (∀ σ8 : sx_M, σ8 = sx_u σ7 27 n p 6 (σ7 27 n1 p1 6) → (∀ σ9 : sx_M, σ9 = sx_u σ8 27 n p 7 (σ8 27 n1 p1 7) → (∀ σ10 : sx_M, σ10 = sx_u σ9 27 n p 8 (σ9 27 n1 p1 8) → (∀ σ11 : sx_M, σ11 = sx_u σ10 27 n p 9 (σ10 27 n1 p1 9) → (∀ σ12 : sx_M, σ12 = sx_u σ11 27 n p 10 (σ11 27 n1 p1 10) → ((¬ (0 : Int32) < 0 ∧ ¬ (0 : Int32) < 0 ∧ ¬ (7 : Int32) < 0 ∧ (0 : Int32).toNatClampNeg + (7 : Int32).toNatClampNeg ≤ 7 ∧ (0 : Int32).toNatClampNeg + (7 : Int32).toNatClampNeg ≤ 7) ∧ (∀ σ14 : sx_M, σ14 = sx_r σ12 28 n p (va_cpy (σ12 28 n1 p1) (σ12 28 n p) (0 : Int32).toNatClampNeg (0 : Int32).toNatClampNeg (7 : Int32).toNatClampNeg) → ((¬ (0 : Int32) < 0 ∧ ¬ (0 : Int32) < 0 ∧ ¬ (7 : Int32) < 0 ∧ (0 : Int32).toNatClampNeg + (7 : Int32).toNatClampNeg ≤ 7 ∧ (0 : Int32).toNatClampNeg + (7 : Int32).toNatClampNeg ≤ 7) ∧ (∀ σ16 : sx_M, σ16 = sx_r σ14 29 n p (va_cpy (σ14 29 n1 p1) (σ14 29 n p) (0 : Int32).toNatClampNeg (0 : Int32).toNatClampNeg (7 : Int32).toNatClampNeg) → ((¬ (0 : Int32) < 0 ∧ ¬ (0 : Int32) < 0 ∧ ¬ (7 : Int32) < 0 ∧ (0 : Int32).toNatClampNeg + (7 : Int32).toNatClampNeg ≤ 7 ∧ (0 : Int32).toNatClampNeg + (7 : Int32).toNatClampNeg ≤ 7) ∧ (∀ σ18 : sx_M, σ18 = sx_r σ16 30 n p (va_cpy (σ16 30 n1 p1) (σ16 30 n p) (0 : Int32).toNatClampNeg (0 : Int32).toNatClampNeg (7 : Int32).toNatClampNeg) → (Q σ18))))))))))))))))))
abbrev rm_Po_copyFrom : Room := { frames := 1, cells := 0, slots := 0, locals := 18 }
set_option maxRecDepth 100000 in
set_option maxHeartbeats 4000000 in
theorem c_Po_copyFrom {l : Launch} {K : sx_K} (hK : kx_C K) (n : Nat) (p : Nat) (n1 : Nat) (p1 : Nat) (σ : sx_M) (τ : sx_L) (Q : sx_M → Prop) (hn : n < 25) (hp : p < 7) (hn1 : n1 < 25) (hp1 : p1 < 7) (h : wp_Po_copyFrom n p n1 p1 σ Q) : Met l y_Po_copyFrom (sx_wd y_Po_copyFrom prog_7_method_4_code 2 none) rm_Po_copyFrom (sx_Pc K [.ref (K.2.2.1 27 n p), .ref (K.2.2.1 27 n1 p1)] σ τ) (sx_Qv K (fun σ _ => Q σ)) 0 0 (sx_A K) := by
  refine sx_met (by decide) (Nat.le_of_ble_eq_true rfl) (fun X hX hE => ?_)
  replace hX : sx_C X K prog_7_method_4_code 2 "SensorTree$Post" none rm_Po_copyFrom l := hX
  show sx_G X K 2 0 [(0, .ref (K.2.2.1 27 n p)), (1, .ref (K.2.2.1 27 n1 p1))] [] (sx_H K σ τ)
  unfold wp_Po_copyFrom at h
  refine sx_aload_n (pc2 := 1) hX 0 d_Po_copyFrom_0 rfl rfl rfl ?_
  refine sx_aload_n (pc2 := 2) hX 1 d_Po_copyFrom_1 rfl rfl rfl ?_
  refine fg_Po_21 (pc2 := 5) hX (hK 27 n1 p1 hn1 hp1) d_Po_copyFrom_2 rfl ?_
  obtain ⟨hc1, h⟩ := h
  refine fp_Po_21 (pc2 := 8) hX hc1 (hK 27 n p hn hp) d_Po_copyFrom_5 rfl ?_
  refine sx_nm (fun σ2 e2 => ?_)
  replace h := h σ2 e2
  refine sx_aload_n (pc2 := 9) hX 0 d_Po_copyFrom_8 rfl rfl rfl ?_
  refine sx_aload_n (pc2 := 10) hX 1 d_Po_copyFrom_9 rfl rfl rfl ?_
  refine fg_Po_25 (pc2 := 13) hX (hK 27 n1 p1 hn1 hp1) d_Po_copyFrom_10 rfl ?_
  refine fp_Po_25 (pc2 := 16) hX (hK 27 n p hn hp) d_Po_copyFrom_13 rfl ?_
  refine sx_nm (fun σ3 e3 => ?_)
  replace h := h σ3 e3
  refine sx_aload_n (pc2 := 17) hX 0 d_Po_copyFrom_16 rfl rfl rfl ?_
  refine sx_aload_n (pc2 := 18) hX 1 d_Po_copyFrom_17 rfl rfl rfl ?_
  refine fg_Po_29 (pc2 := 21) hX (hK 27 n1 p1 hn1 hp1) d_Po_copyFrom_18 rfl ?_
  refine fp_Po_29 (pc2 := 24) hX (hK 27 n p hn hp) d_Po_copyFrom_21 rfl ?_
  refine sx_nm (fun σ4 e4 => ?_)
  replace h := h σ4 e4
  refine sx_aload_n (pc2 := 25) hX 0 d_Po_copyFrom_24 rfl rfl rfl ?_
  refine sx_aload_n (pc2 := 26) hX 1 d_Po_copyFrom_25 rfl rfl rfl ?_
  refine fg_Po_32 (pc2 := 29) hX (hK 27 n1 p1 hn1 hp1) d_Po_copyFrom_26 rfl ?_
  refine fp_Po_32 (pc2 := 32) hX (hK 27 n p hn hp) d_Po_copyFrom_29 rfl ?_
  refine sx_nm (fun σ5 e5 => ?_)
  replace h := h σ5 e5
  refine sx_aload_n (pc2 := 33) hX 0 d_Po_copyFrom_32 rfl rfl rfl ?_
  refine sx_aload_n (pc2 := 34) hX 1 d_Po_copyFrom_33 rfl rfl rfl ?_
  refine fg_Po_35 (pc2 := 37) hX (hK 27 n1 p1 hn1 hp1) d_Po_copyFrom_34 rfl ?_
  refine fp_Po_35 (pc2 := 40) hX (hK 27 n p hn hp) d_Po_copyFrom_37 rfl ?_
  refine sx_nm (fun σ6 e6 => ?_)
  replace h := h σ6 e6
  refine sx_aload_n (pc2 := 41) hX 0 d_Po_copyFrom_40 rfl rfl rfl ?_
  refine sx_aload_n (pc2 := 42) hX 1 d_Po_copyFrom_41 rfl rfl rfl ?_
  refine fg_Po_38 (pc2 := 45) hX (hK 27 n1 p1 hn1 hp1) d_Po_copyFrom_42 rfl ?_
  refine fp_Po_38 (pc2 := 48) hX (hK 27 n p hn hp) d_Po_copyFrom_45 rfl ?_
  refine sx_nm (fun σ7 e7 => ?_)
  replace h := h σ7 e7
  refine sx_aload_n (pc2 := 49) hX 0 d_Po_copyFrom_48 rfl rfl rfl ?_
  refine sx_aload_n (pc2 := 50) hX 1 d_Po_copyFrom_49 rfl rfl rfl ?_
  refine fg_Po_44 (pc2 := 53) hX (hK 27 n1 p1 hn1 hp1) d_Po_copyFrom_50 rfl ?_
  refine fp_Po_44 (pc2 := 56) hX (hK 27 n p hn hp) d_Po_copyFrom_53 rfl ?_
  refine sx_nm (fun σ8 e8 => ?_)
  replace h := h σ8 e8
  refine sx_aload_n (pc2 := 57) hX 0 d_Po_copyFrom_56 rfl rfl rfl ?_
  refine sx_aload_n (pc2 := 58) hX 1 d_Po_copyFrom_57 rfl rfl rfl ?_
  refine fg_Po_47 (pc2 := 61) hX (hK 27 n1 p1 hn1 hp1) d_Po_copyFrom_58 rfl ?_
  refine fp_Po_47 (pc2 := 64) hX (hK 27 n p hn hp) d_Po_copyFrom_61 rfl ?_
  refine sx_nm (fun σ9 e9 => ?_)
  replace h := h σ9 e9
  refine sx_aload_n (pc2 := 65) hX 0 d_Po_copyFrom_64 rfl rfl rfl ?_
  refine sx_aload_n (pc2 := 66) hX 1 d_Po_copyFrom_65 rfl rfl rfl ?_
  refine fg_Po_50 (pc2 := 69) hX (hK 27 n1 p1 hn1 hp1) d_Po_copyFrom_66 rfl ?_
  refine fp_Po_50 (pc2 := 72) hX (hK 27 n p hn hp) d_Po_copyFrom_69 rfl ?_
  refine sx_nm (fun σ10 e10 => ?_)
  replace h := h σ10 e10
  refine sx_aload_n (pc2 := 73) hX 0 d_Po_copyFrom_72 rfl rfl rfl ?_
  refine sx_aload_n (pc2 := 74) hX 1 d_Po_copyFrom_73 rfl rfl rfl ?_
  refine fg_Po_53 (pc2 := 77) hX (hK 27 n1 p1 hn1 hp1) d_Po_copyFrom_74 rfl ?_
  refine fp_Po_53 (pc2 := 80) hX (hK 27 n p hn hp) d_Po_copyFrom_77 rfl ?_
  refine sx_nm (fun σ11 e11 => ?_)
  replace h := h σ11 e11
  refine sx_aload_n (pc2 := 81) hX 0 d_Po_copyFrom_80 rfl rfl rfl ?_
  refine sx_aload_n (pc2 := 82) hX 1 d_Po_copyFrom_81 rfl rfl rfl ?_
  refine fg_Po_56 (pc2 := 85) hX (hK 27 n1 p1 hn1 hp1) d_Po_copyFrom_82 rfl ?_
  refine fp_Po_56 (pc2 := 88) hX (hK 27 n p hn hp) d_Po_copyFrom_85 rfl ?_
  refine sx_nm (fun σ12 e12 => ?_)
  replace h := h σ12 e12
  refine sx_aload_n (pc2 := 89) hX 1 d_Po_copyFrom_88 rfl rfl rfl ?_
  refine fg_Po_9 (pc2 := 92) hX (hK 27 n1 p1 hn1 hp1) d_Po_copyFrom_89 rfl ?_
  refine sx_iconst (v := 0) (pc2 := 93) hX d_Po_copyFrom_92 (by decide) rfl ?_
  refine sx_aload_n (pc2 := 94) hX 0 d_Po_copyFrom_93 rfl rfl rfl ?_
  refine fg_Po_9 (pc2 := 97) hX (hK 27 n p hn hp) d_Po_copyFrom_94 rfl ?_
  refine sx_iconst (v := 0) (pc2 := 98) hX d_Po_copyFrom_97 (by decide) rfl ?_
  refine sx_bipush (v := 7) (pc2 := 100) hX d_Po_copyFrom_98 (by decide) rfl ?_
  obtain ⟨hc13, h⟩ := h
  refine sx_copy (pc2 := 103) hX (hK 28 n1 p1 hn1 hp1) (hK 28 n p hn hp) rfl (fun _ => rfl) lk_5 kx_cpy.1 kx_cpy.2.1 kx_cpy.2.2 hc13.1 hc13.2.1 hc13.2.2.1 hc13.2.2.2.1 hc13.2.2.2.2 (by decide) d_Po_copyFrom_100 rfl ?_
  refine sx_nm (fun σ14 e14 => ?_)
  replace h := h σ14 e14
  refine sx_aload_n (pc2 := 104) hX 1 d_Po_copyFrom_103 rfl rfl rfl ?_
  refine fg_Po_15 (pc2 := 107) hX (hK 27 n1 p1 hn1 hp1) d_Po_copyFrom_104 rfl ?_
  refine sx_iconst (v := 0) (pc2 := 108) hX d_Po_copyFrom_107 (by decide) rfl ?_
  refine sx_aload_n (pc2 := 109) hX 0 d_Po_copyFrom_108 rfl rfl rfl ?_
  refine fg_Po_15 (pc2 := 112) hX (hK 27 n p hn hp) d_Po_copyFrom_109 rfl ?_
  refine sx_iconst (v := 0) (pc2 := 113) hX d_Po_copyFrom_112 (by decide) rfl ?_
  refine sx_bipush (v := 7) (pc2 := 115) hX d_Po_copyFrom_113 (by decide) rfl ?_
  obtain ⟨hc15, h⟩ := h
  refine sx_copy (pc2 := 118) hX (hK 29 n1 p1 hn1 hp1) (hK 29 n p hn hp) rfl (fun _ => rfl) lk_5 kx_cpy.1 kx_cpy.2.1 kx_cpy.2.2 hc15.1 hc15.2.1 hc15.2.2.1 hc15.2.2.2.1 hc15.2.2.2.2 (by decide) d_Po_copyFrom_115 rfl ?_
  refine sx_nm (fun σ16 e16 => ?_)
  replace h := h σ16 e16
  refine sx_aload_n (pc2 := 119) hX 1 d_Po_copyFrom_118 rfl rfl rfl ?_
  refine fg_Po_18 (pc2 := 122) hX (hK 27 n1 p1 hn1 hp1) d_Po_copyFrom_119 rfl ?_
  refine sx_iconst (v := 0) (pc2 := 123) hX d_Po_copyFrom_122 (by decide) rfl ?_
  refine sx_aload_n (pc2 := 124) hX 0 d_Po_copyFrom_123 rfl rfl rfl ?_
  refine fg_Po_18 (pc2 := 127) hX (hK 27 n p hn hp) d_Po_copyFrom_124 rfl ?_
  refine sx_iconst (v := 0) (pc2 := 128) hX d_Po_copyFrom_127 (by decide) rfl ?_
  refine sx_bipush (v := 7) (pc2 := 130) hX d_Po_copyFrom_128 (by decide) rfl ?_
  obtain ⟨hc17, h⟩ := h
  refine sx_copy (pc2 := 133) hX (hK 30 n1 p1 hn1 hp1) (hK 30 n p hn hp) rfl (fun _ => rfl) lk_5 kx_cpy.1 kx_cpy.2.1 kx_cpy.2.2 hc17.1 hc17.2.1 hc17.2.2.1 hc17.2.2.2.1 hc17.2.2.2.2 (by decide) d_Po_copyFrom_130 rfl ?_
  refine sx_nm (fun σ18 e18 => ?_)
  replace h := h σ18 e18
  exact sx_vret hX hE h d_Po_copyFrom_133
theorem cl_Ne_62 {X : sx_T} {K : sx_K} {cc : ByteArray} {nL : Nat} {ret : Option FieldType} {rm : Room} {l : Launch} {pc pc2 : Nat} {lv : List (Nat × Value)} {st : List Value} {σ : sx_M} {τ : sx_L} {n : Nat} {p : Nat} {n1 : Nat} {p1 : Nat} {Q : sx_M → Prop} (hX : sx_C X K cc nL "SensorTree$Net" ret rm l) (hK : kx_C K) (h : wp_Po_copyFrom n p n1 p1 σ Q) (hn : n < 25) (hp : p < 7) (hn1 : n1 < 25) (hp1 : p1 < 7) (hR : rm_Po_copyFrom.frames + 1 ≤ rm.frames ∧ 8 + (2 + 11) + rm_Po_copyFrom.locals ≤ rm.locals) (hst : (st.map fun v => v.category).sum ≤ 8) (hd : decode cc pc = .ok (.invokevirtual 62, 3)) (hpc : pc + 3 = pc2) (kk : ∀ (σ2 : sx_M) (τ2 : sx_L), Q σ2 → sx_G X K nL pc2 lv (st) (sx_H K σ2 τ2)) : sx_G X K nL pc lv (.ref (K.2.2.1 27 n1 p1) :: .ref (K.2.2.1 27 n p) :: st) (sx_H K σ τ) :=
  sx_callVv (Q := fun σ _ => Q σ) (As := [.ref (K.2.2.1 27 n1 p1)]) hX (c_Po_copyFrom hK n p n1 p1 σ τ Q hn hp hn1 hp1 h) (hK 27 n p hn hp) rfl rfl lk_124 lk_125 hy_Po_copyFrom lk_122 lk_22 lk_123 ⟨rfl, rfl⟩ hR hst rfl hd hpc kk
def y_Ne_copyFrom : MethodName := ⟨"SensorTree$Net", "copyFrom", "(LSensorTree$Net;)V"⟩
theorem hy_Ne_copyFrom : y_Ne_copyFrom.cls ≠ "java/lang/invoke/MethodHandle" ∧ y_Ne_copyFrom.cls ≠ "java/lang/invoke/VarHandle" ∧ (parseMethodDescriptor y_Ne_copyFrom.desc).map (fun d => d.parameters.length) = some 1 := by decide +kernel
theorem d_Ne_copyFrom_0 : decode prog_5_method_2_code 0 = .ok (.aload_n 0, 1) := by decide +kernel
theorem d_Ne_copyFrom_1 : decode prog_5_method_2_code 1 = .ok (.aload_n 1, 1) := by decide +kernel
theorem d_Ne_copyFrom_2 : decode prog_5_method_2_code 2 = .ok (.getfield 9, 3) := by decide +kernel
theorem d_Ne_copyFrom_5 : decode prog_5_method_2_code 5 = .ok (.putfield 9, 3) := by decide +kernel
theorem d_Ne_copyFrom_8 : decode prog_5_method_2_code 8 = .ok (.aload_n 0, 1) := by decide +kernel
theorem d_Ne_copyFrom_9 : decode prog_5_method_2_code 9 = .ok (.aload_n 1, 1) := by decide +kernel
theorem d_Ne_copyFrom_10 : decode prog_5_method_2_code 10 = .ok (.getfield 15, 3) := by decide +kernel
theorem d_Ne_copyFrom_13 : decode prog_5_method_2_code 13 = .ok (.putfield 15, 3) := by decide +kernel
theorem d_Ne_copyFrom_16 : decode prog_5_method_2_code 16 = .ok (.aload_n 0, 1) := by decide +kernel
theorem d_Ne_copyFrom_17 : decode prog_5_method_2_code 17 = .ok (.aload_n 1, 1) := by decide +kernel
theorem d_Ne_copyFrom_18 : decode prog_5_method_2_code 18 = .ok (.getfield 18, 3) := by decide +kernel
theorem d_Ne_copyFrom_21 : decode prog_5_method_2_code 21 = .ok (.putfield 18, 3) := by decide +kernel
theorem d_Ne_copyFrom_24 : decode prog_5_method_2_code 24 = .ok (.aload_n 0, 1) := by decide +kernel
theorem d_Ne_copyFrom_25 : decode prog_5_method_2_code 25 = .ok (.aload_n 1, 1) := by decide +kernel
theorem d_Ne_copyFrom_26 : decode prog_5_method_2_code 26 = .ok (.getfield 21, 3) := by decide +kernel
theorem d_Ne_copyFrom_29 : decode prog_5_method_2_code 29 = .ok (.putfield 21, 3) := by decide +kernel
theorem d_Ne_copyFrom_32 : decode prog_5_method_2_code 32 = .ok (.aload_n 0, 1) := by decide +kernel
theorem d_Ne_copyFrom_33 : decode prog_5_method_2_code 33 = .ok (.aload_n 1, 1) := by decide +kernel
theorem d_Ne_copyFrom_34 : decode prog_5_method_2_code 34 = .ok (.getfield 24, 3) := by decide +kernel
theorem d_Ne_copyFrom_37 : decode prog_5_method_2_code 37 = .ok (.putfield 24, 3) := by decide +kernel
theorem d_Ne_copyFrom_40 : decode prog_5_method_2_code 40 = .ok (.aload_n 0, 1) := by decide +kernel
theorem d_Ne_copyFrom_41 : decode prog_5_method_2_code 41 = .ok (.aload_n 1, 1) := by decide +kernel
theorem d_Ne_copyFrom_42 : decode prog_5_method_2_code 42 = .ok (.getfield 27, 3) := by decide +kernel
theorem d_Ne_copyFrom_45 : decode prog_5_method_2_code 45 = .ok (.putfield 27, 3) := by decide +kernel
theorem d_Ne_copyFrom_48 : decode prog_5_method_2_code 48 = .ok (.aload_n 0, 1) := by decide +kernel
theorem d_Ne_copyFrom_49 : decode prog_5_method_2_code 49 = .ok (.aload_n 1, 1) := by decide +kernel
theorem d_Ne_copyFrom_50 : decode prog_5_method_2_code 50 = .ok (.getfield 30, 3) := by decide +kernel
theorem d_Ne_copyFrom_53 : decode prog_5_method_2_code 53 = .ok (.putfield 30, 3) := by decide +kernel
theorem d_Ne_copyFrom_56 : decode prog_5_method_2_code 56 = .ok (.iconst 0, 1) := by decide +kernel
theorem d_Ne_copyFrom_57 : decode prog_5_method_2_code 57 = .ok (.istore_n 2, 1) := by decide +kernel
theorem d_Ne_copyFrom_58 : decode prog_5_method_2_code 58 = .ok (.iload_n 2, 1) := by decide +kernel
theorem d_Ne_copyFrom_59 : decode prog_5_method_2_code 59 = .ok (.aload_n 0, 1) := by decide +kernel
theorem d_Ne_copyFrom_60 : decode prog_5_method_2_code 60 = .ok (.getfield 53, 3) := by decide +kernel
theorem d_Ne_copyFrom_63 : decode prog_5_method_2_code 63 = .ok (.getfield 58, 3) := by decide +kernel
theorem d_Ne_copyFrom_66 : decode prog_5_method_2_code 66 = .ok (.if_icmp .ge 24, 3) := by decide +kernel
theorem d_Ne_copyFrom_69 : decode prog_5_method_2_code 69 = .ok (.aload_n 0, 1) := by decide +kernel
theorem d_Ne_copyFrom_70 : decode prog_5_method_2_code 70 = .ok (.getfield 35, 3) := by decide +kernel
theorem d_Ne_copyFrom_73 : decode prog_5_method_2_code 73 = .ok (.iload_n 2, 1) := by decide +kernel
theorem d_Ne_copyFrom_74 : decode prog_5_method_2_code 74 = .ok (.aaload, 1) := by decide +kernel
theorem d_Ne_copyFrom_75 : decode prog_5_method_2_code 75 = .ok (.aload_n 1, 1) := by decide +kernel
theorem d_Ne_copyFrom_76 : decode prog_5_method_2_code 76 = .ok (.getfield 35, 3) := by decide +kernel
theorem d_Ne_copyFrom_79 : decode prog_5_method_2_code 79 = .ok (.iload_n 2, 1) := by decide +kernel
theorem d_Ne_copyFrom_80 : decode prog_5_method_2_code 80 = .ok (.aaload, 1) := by decide +kernel
theorem d_Ne_copyFrom_81 : decode prog_5_method_2_code 81 = .ok (.invokevirtual 62, 3) := by decide +kernel
theorem d_Ne_copyFrom_84 : decode prog_5_method_2_code 84 = .ok (.iinc 2 1, 3) := by decide +kernel
theorem d_Ne_copyFrom_87 : decode prog_5_method_2_code 87 = .ok (.goto (-29), 3) := by decide +kernel
theorem d_Ne_copyFrom_90 : decode prog_5_method_2_code 90 = .ok (.aload_n 1, 1) := by decide +kernel
theorem d_Ne_copyFrom_91 : decode prog_5_method_2_code 91 = .ok (.getfield 39, 3) := by decide +kernel
theorem d_Ne_copyFrom_94 : decode prog_5_method_2_code 94 = .ok (.iconst 0, 1) := by decide +kernel
theorem d_Ne_copyFrom_95 : decode prog_5_method_2_code 95 = .ok (.aload_n 0, 1) := by decide +kernel
theorem d_Ne_copyFrom_96 : decode prog_5_method_2_code 96 = .ok (.getfield 39, 3) := by decide +kernel
theorem d_Ne_copyFrom_99 : decode prog_5_method_2_code 99 = .ok (.iconst 0, 1) := by decide +kernel
theorem d_Ne_copyFrom_100 : decode prog_5_method_2_code 100 = .ok (.bipush 16, 2) := by decide +kernel
theorem d_Ne_copyFrom_102 : decode prog_5_method_2_code 102 = .ok (.invokestatic 66, 3) := by decide +kernel
theorem d_Ne_copyFrom_105 : decode prog_5_method_2_code 105 = .ok (.aload_n 1, 1) := by decide +kernel
theorem d_Ne_copyFrom_106 : decode prog_5_method_2_code 106 = .ok (.getfield 43, 3) := by decide +kernel
theorem d_Ne_copyFrom_109 : decode prog_5_method_2_code 109 = .ok (.iconst 0, 1) := by decide +kernel
theorem d_Ne_copyFrom_110 : decode prog_5_method_2_code 110 = .ok (.aload_n 0, 1) := by decide +kernel
theorem d_Ne_copyFrom_111 : decode prog_5_method_2_code 111 = .ok (.getfield 43, 3) := by decide +kernel
theorem d_Ne_copyFrom_114 : decode prog_5_method_2_code 114 = .ok (.iconst 0, 1) := by decide +kernel
theorem d_Ne_copyFrom_115 : decode prog_5_method_2_code 115 = .ok (.bipush 16, 2) := by decide +kernel
theorem d_Ne_copyFrom_117 : decode prog_5_method_2_code 117 = .ok (.invokestatic 66, 3) := by decide +kernel
theorem d_Ne_copyFrom_120 : decode prog_5_method_2_code 120 = .ok (.aload_n 0, 1) := by decide +kernel
theorem d_Ne_copyFrom_121 : decode prog_5_method_2_code 121 = .ok (.getfield 49, 3) := by decide +kernel
theorem d_Ne_copyFrom_124 : decode prog_5_method_2_code 124 = .ok (.aload_n 1, 1) := by decide +kernel
theorem d_Ne_copyFrom_125 : decode prog_5_method_2_code 125 = .ok (.getfield 49, 3) := by decide +kernel
theorem d_Ne_copyFrom_128 : decode prog_5_method_2_code 128 = .ok (.invokevirtual 72, 3) := by decide +kernel
theorem d_Ne_copyFrom_131 : decode prog_5_method_2_code 131 = .ok (.return_, 1) := by decide +kernel
def wp_Ne_copyFrom_b58 (n : Nat)  (Q : sx_M → Prop) : Nat → Nat → Int32 → sx_M → Prop
  | 0, _, _, _ => False
  | f + 1, v1n, v2, σ => if σ 8 0 0 0 ≤ v2 then ((¬ (0 : Int32) < 0 ∧ ¬ (0 : Int32) < 0 ∧ ¬ (16 : Int32) < 0 ∧ (0 : Int32).toNatClampNeg + (16 : Int32).toNatClampNeg ≤ 16 ∧ (0 : Int32).toNatClampNeg + (16 : Int32).toNatClampNeg ≤ 16) ∧ (∀ σ3 : sx_M, σ3 = sx_r σ 18 n 0 (va_cpy (σ 18 v1n 0) (σ 18 n 0) (0 : Int32).toNatClampNeg (0 : Int32).toNatClampNeg (16 : Int32).toNatClampNeg) → ((¬ (0 : Int32) < 0 ∧ ¬ (0 : Int32) < 0 ∧ ¬ (16 : Int32) < 0 ∧ (0 : Int32).toNatClampNeg + (16 : Int32).toNatClampNeg ≤ 16 ∧ (0 : Int32).toNatClampNeg + (16 : Int32).toNatClampNeg ≤ 16) ∧ (∀ σ5 : sx_M, σ5 = sx_r σ3 19 n 0 (va_cpy (σ3 19 v1n 0) (σ3 19 n 0) (0 : Int32).toNatClampNeg (0 : Int32).toNatClampNeg (16 : Int32).toNatClampNeg) → (wp_Ma_copyFrom n v1n σ5 (fun σ6 => Q σ6)))))) else (vp_in v2 7 ∧ (vp_in v2 7 ∧ (wp_Po_copyFrom n v2.toNatClampNeg v1n v2.toNatClampNeg σ (fun σ9 => wp_Ne_copyFrom_b58 n Q f v1n (v2 + 1) σ9))))
def wp_Ne_copyFrom (n : Nat) (n1 : Nat) (σ : sx_M) (Q : sx_M → Prop) : Prop := ∀ σ10 : sx_M, σ10 = sx_u σ 16 n 0 1 (σ 16 n1 0 1) → (∀ σ11 : sx_M, σ11 = sx_u σ10 16 n 0 2 (σ10 16 n1 0 2) → (∀ σ12 : sx_M, σ12 = sx_u σ11 16 n 0 3 (σ11 16 n1 0 3) → (∀ σ13 : sx_M, σ13 = sx_u σ12 16 n 0 4 (σ12 16 n1 0 4) → (∀ σ14 : sx_M, σ14 = sx_u σ13 16 n 0 5 (σ13 16 n1 0 5) → (∀ σ15 : sx_M, σ15 = sx_u σ14 16 n 0 6 (σ14 16 n1 0 6) → (∀ σ16 : sx_M, σ16 = sx_u σ15 16 n 0 7 (σ15 16 n1 0 7) → (∃ f58, wp_Ne_copyFrom_b58 n Q f58 n1 0 σ16)))))))
abbrev rm_Ne_copyFrom : Room := { frames := 2, cells := 0, slots := 0, locals := 39 }
set_option maxRecDepth 100000 in
set_option maxHeartbeats 4000000 in
theorem g_Ne_copyFrom_b58 {l : Launch} {K : sx_K} {X : sx_T} {n : Nat}  {Q : sx_M → Prop} (hX : sx_C X K prog_5_method_2_code 3 "SensorTree$Net" none rm_Ne_copyFrom l) (hK : kx_C K) (hE : sx_E X K (sx_Qv K (fun σ _ => Q σ))) (hn : n < 25) : ∀ (f : Nat) (v1n : Nat) (v2 : Int32) (σ : sx_M) (τ : sx_L) (hv1n : v1n < 25), wp_Ne_copyFrom_b58 n Q f v1n v2 σ → sx_G X K 3 58 [(0, .ref (K.2.2.1 16 n 0)), (1, .ref (K.2.2.1 16 v1n 0)), (2, .int v2)] [] (sx_H K σ τ) := by
  intro f
  induction f with
  | zero => intro v1n v2 σ τ hv1n h; exact (show False from h).elim
  | succ f ih =>
    intro v1n v2 σ τ hv1n h
    rw [wp_Ne_copyFrom_b58] at h
    refine sx_iload_n (pc2 := 59) hX 2 d_Ne_copyFrom_58 rfl rfl rfl ?_
    refine sx_aload_n (pc2 := 60) hX 0 d_Ne_copyFrom_59 rfl rfl rfl ?_
    refine fg_Ne_53 (pc2 := 63) hX (hK 16 n 0 hn (by decide)) d_Ne_copyFrom_60 rfl ?_
    refine fg_Ne_58 (pc2 := 66) hX (hK 8 0 0 (by decide) (by decide)) d_Ne_copyFrom_63 rfl ?_
    refine sx_icmp_ge (tgt := 90) (pc2 := 69) hX d_Ne_copyFrom_66 (by decide) rfl (fun hc1 => ?_) (fun hc1 => ?_)
    · replace h := sx_t h hc1
      refine sx_aload_n (pc2 := 91) hX 1 d_Ne_copyFrom_90 rfl rfl rfl ?_
      refine fg_Ne_39 (pc2 := 94) hX (hK 16 v1n 0 hv1n (by decide)) d_Ne_copyFrom_91 rfl ?_
      refine sx_iconst (v := 0) (pc2 := 95) hX d_Ne_copyFrom_94 (by decide) rfl ?_
      refine sx_aload_n (pc2 := 96) hX 0 d_Ne_copyFrom_95 rfl rfl rfl ?_
      refine fg_Ne_39 (pc2 := 99) hX (hK 16 n 0 hn (by decide)) d_Ne_copyFrom_96 rfl ?_
      refine sx_iconst (v := 0) (pc2 := 100) hX d_Ne_copyFrom_99 (by decide) rfl ?_
      refine sx_bipush (v := 16) (pc2 := 102) hX d_Ne_copyFrom_100 (by decide) rfl ?_
      obtain ⟨hc2, h⟩ := h
      refine sx_copy (pc2 := 105) hX (hK 18 v1n 0 hv1n (by decide)) (hK 18 n 0 hn (by decide)) rfl (fun _ => rfl) lk_6 kx_cpy.1 kx_cpy.2.1 kx_cpy.2.2 hc2.1 hc2.2.1 hc2.2.2.1 hc2.2.2.2.1 hc2.2.2.2.2 (by decide) d_Ne_copyFrom_102 rfl ?_
      refine sx_nm (fun σ3 e3 => ?_)
      replace h := h σ3 e3
      refine sx_aload_n (pc2 := 106) hX 1 d_Ne_copyFrom_105 rfl rfl rfl ?_
      refine fg_Ne_43 (pc2 := 109) hX (hK 16 v1n 0 hv1n (by decide)) d_Ne_copyFrom_106 rfl ?_
      refine sx_iconst (v := 0) (pc2 := 110) hX d_Ne_copyFrom_109 (by decide) rfl ?_
      refine sx_aload_n (pc2 := 111) hX 0 d_Ne_copyFrom_110 rfl rfl rfl ?_
      refine fg_Ne_43 (pc2 := 114) hX (hK 16 n 0 hn (by decide)) d_Ne_copyFrom_111 rfl ?_
      refine sx_iconst (v := 0) (pc2 := 115) hX d_Ne_copyFrom_114 (by decide) rfl ?_
      refine sx_bipush (v := 16) (pc2 := 117) hX d_Ne_copyFrom_115 (by decide) rfl ?_
      obtain ⟨hc4, h⟩ := h
      refine sx_copy (pc2 := 120) hX (hK 19 v1n 0 hv1n (by decide)) (hK 19 n 0 hn (by decide)) rfl (fun _ => rfl) lk_6 kx_cpy.1 kx_cpy.2.1 kx_cpy.2.2 hc4.1 hc4.2.1 hc4.2.2.1 hc4.2.2.2.1 hc4.2.2.2.2 (by decide) d_Ne_copyFrom_117 rfl ?_
      refine sx_nm (fun σ5 e5 => ?_)
      replace h := h σ5 e5
      refine sx_aload_n (pc2 := 121) hX 0 d_Ne_copyFrom_120 rfl rfl rfl ?_
      refine fg_Ne_49 (pc2 := 124) hX (hK 16 n 0 hn (by decide)) d_Ne_copyFrom_121 rfl ?_
      refine sx_aload_n (pc2 := 125) hX 1 d_Ne_copyFrom_124 rfl rfl rfl ?_
      refine fg_Ne_49 (pc2 := 128) hX (hK 16 v1n 0 hv1n (by decide)) d_Ne_copyFrom_125 rfl ?_
      refine cl_Ne_72 (pc2 := 131) hX hK h (sx_w25 hn) (sx_w25 hv1n) ⟨Nat.le_of_ble_eq_true rfl, Nat.le_of_ble_eq_true rfl⟩ (Nat.le_of_ble_eq_true rfl) d_Ne_copyFrom_128 rfl (fun σ6 τ6 h => ?_)
      exact sx_vret hX hE h d_Ne_copyFrom_131
    · replace h := sx_f h hc1
      refine sx_aload_n (pc2 := 70) hX 0 d_Ne_copyFrom_69 rfl rfl rfl ?_
      refine fg_Ne_35 (pc2 := 73) hX (hK 16 n 0 hn (by decide)) d_Ne_copyFrom_70 rfl ?_
      refine sx_iload_n (pc2 := 74) hX 2 d_Ne_copyFrom_73 rfl rfl rfl ?_
      obtain ⟨hc7, h⟩ := h
      refine sx_aald (a := K.2.2.1 27 n v2.toNatClampNeg) (pc2 := 75) hX (hK 17 n 0 hn (by decide)) 4 rfl rfl rfl hc7 d_Ne_copyFrom_74 rfl ?_
      refine sx_aload_n (pc2 := 76) hX 1 d_Ne_copyFrom_75 rfl rfl rfl ?_
      refine fg_Ne_35 (pc2 := 79) hX (hK 16 v1n 0 hv1n (by decide)) d_Ne_copyFrom_76 rfl ?_
      refine sx_iload_n (pc2 := 80) hX 2 d_Ne_copyFrom_79 rfl rfl rfl ?_
      obtain ⟨hc8, h⟩ := h
      refine sx_aald (a := K.2.2.1 27 v1n v2.toNatClampNeg) (pc2 := 81) hX (hK 17 v1n 0 hv1n (by decide)) 4 rfl rfl rfl hc8 d_Ne_copyFrom_80 rfl ?_
      refine cl_Ne_62 (pc2 := 84) hX hK h hn (sx_lt hc7) hv1n (sx_lt hc8) ⟨Nat.le_of_ble_eq_true rfl, Nat.le_of_ble_eq_true rfl⟩ (Nat.le_of_ble_eq_true rfl) d_Ne_copyFrom_81 rfl (fun σ9 τ9 h => ?_)
      refine sx_iinc (pc2 := 87) hX 2 _ [(0, .ref (K.2.2.1 16 n 0)), (1, .ref (K.2.2.1 16 v1n 0)), (2, .int (v2 + 1))] [1, 2, 0] d_Ne_copyFrom_84 rfl (v2 + 1) rfl (by decide) rfl rfl rfl ?_
      refine sx_goto (tgt := 58) hX d_Ne_copyFrom_87 (by decide) ?_
      exact ih v1n (v2 + 1) _ _ hv1n h
set_option maxRecDepth 100000 in
set_option maxHeartbeats 4000000 in
theorem c_Ne_copyFrom {l : Launch} {K : sx_K} (hK : kx_C K) (n : Nat) (n1 : Nat) (σ : sx_M) (τ : sx_L) (Q : sx_M → Prop) (hn : n < 25) (hn1 : n1 < 25) (h : wp_Ne_copyFrom n n1 σ Q) : Met l y_Ne_copyFrom (sx_wd y_Ne_copyFrom prog_5_method_2_code 3 none) rm_Ne_copyFrom (sx_Pc K [.ref (K.2.2.1 16 n 0), .ref (K.2.2.1 16 n1 0)] σ τ) (sx_Qv K (fun σ _ => Q σ)) 0 0 (sx_A K) := by
  refine sx_met (by decide) (Nat.le_of_ble_eq_true rfl) (fun X hX hE => ?_)
  replace hX : sx_C X K prog_5_method_2_code 3 "SensorTree$Net" none rm_Ne_copyFrom l := hX
  show sx_G X K 3 0 [(0, .ref (K.2.2.1 16 n 0)), (1, .ref (K.2.2.1 16 n1 0))] [] (sx_H K σ τ)
  unfold wp_Ne_copyFrom at h
  refine sx_aload_n (pc2 := 1) hX 0 d_Ne_copyFrom_0 rfl rfl rfl ?_
  refine sx_aload_n (pc2 := 2) hX 1 d_Ne_copyFrom_1 rfl rfl rfl ?_
  refine fg_Ne_9 (pc2 := 5) hX (hK 16 n1 0 hn1 (by decide)) d_Ne_copyFrom_2 rfl ?_
  refine fp_Ne_9 (pc2 := 8) hX (hK 16 n 0 hn (by decide)) d_Ne_copyFrom_5 rfl ?_
  refine sx_nm (fun σ10 e10 => ?_)
  replace h := h σ10 e10
  refine sx_aload_n (pc2 := 9) hX 0 d_Ne_copyFrom_8 rfl rfl rfl ?_
  refine sx_aload_n (pc2 := 10) hX 1 d_Ne_copyFrom_9 rfl rfl rfl ?_
  refine fg_Ne_15 (pc2 := 13) hX (hK 16 n1 0 hn1 (by decide)) d_Ne_copyFrom_10 rfl ?_
  refine fp_Ne_15 (pc2 := 16) hX (hK 16 n 0 hn (by decide)) d_Ne_copyFrom_13 rfl ?_
  refine sx_nm (fun σ11 e11 => ?_)
  replace h := h σ11 e11
  refine sx_aload_n (pc2 := 17) hX 0 d_Ne_copyFrom_16 rfl rfl rfl ?_
  refine sx_aload_n (pc2 := 18) hX 1 d_Ne_copyFrom_17 rfl rfl rfl ?_
  refine fg_Ne_18 (pc2 := 21) hX (hK 16 n1 0 hn1 (by decide)) d_Ne_copyFrom_18 rfl ?_
  refine fp_Ne_18 (pc2 := 24) hX (hK 16 n 0 hn (by decide)) d_Ne_copyFrom_21 rfl ?_
  refine sx_nm (fun σ12 e12 => ?_)
  replace h := h σ12 e12
  refine sx_aload_n (pc2 := 25) hX 0 d_Ne_copyFrom_24 rfl rfl rfl ?_
  refine sx_aload_n (pc2 := 26) hX 1 d_Ne_copyFrom_25 rfl rfl rfl ?_
  refine fg_Ne_21 (pc2 := 29) hX (hK 16 n1 0 hn1 (by decide)) d_Ne_copyFrom_26 rfl ?_
  refine fp_Ne_21 (pc2 := 32) hX (hK 16 n 0 hn (by decide)) d_Ne_copyFrom_29 rfl ?_
  refine sx_nm (fun σ13 e13 => ?_)
  replace h := h σ13 e13
  refine sx_aload_n (pc2 := 33) hX 0 d_Ne_copyFrom_32 rfl rfl rfl ?_
  refine sx_aload_n (pc2 := 34) hX 1 d_Ne_copyFrom_33 rfl rfl rfl ?_
  refine fg_Ne_24 (pc2 := 37) hX (hK 16 n1 0 hn1 (by decide)) d_Ne_copyFrom_34 rfl ?_
  refine fp_Ne_24 (pc2 := 40) hX (hK 16 n 0 hn (by decide)) d_Ne_copyFrom_37 rfl ?_
  refine sx_nm (fun σ14 e14 => ?_)
  replace h := h σ14 e14
  refine sx_aload_n (pc2 := 41) hX 0 d_Ne_copyFrom_40 rfl rfl rfl ?_
  refine sx_aload_n (pc2 := 42) hX 1 d_Ne_copyFrom_41 rfl rfl rfl ?_
  refine fg_Ne_27 (pc2 := 45) hX (hK 16 n1 0 hn1 (by decide)) d_Ne_copyFrom_42 rfl ?_
  refine fp_Ne_27 (pc2 := 48) hX (hK 16 n 0 hn (by decide)) d_Ne_copyFrom_45 rfl ?_
  refine sx_nm (fun σ15 e15 => ?_)
  replace h := h σ15 e15
  refine sx_aload_n (pc2 := 49) hX 0 d_Ne_copyFrom_48 rfl rfl rfl ?_
  refine sx_aload_n (pc2 := 50) hX 1 d_Ne_copyFrom_49 rfl rfl rfl ?_
  refine fg_Ne_30 (pc2 := 53) hX (hK 16 n1 0 hn1 (by decide)) d_Ne_copyFrom_50 rfl ?_
  refine fp_Ne_30 (pc2 := 56) hX (hK 16 n 0 hn (by decide)) d_Ne_copyFrom_53 rfl ?_
  refine sx_nm (fun σ16 e16 => ?_)
  replace h := h σ16 e16
  refine sx_iconst (v := 0) (pc2 := 57) hX d_Ne_copyFrom_56 (by decide) rfl ?_
  refine sx_istore_n (pc2 := 58) hX _ [(0, .ref (K.2.2.1 16 n 0)), (1, .ref (K.2.2.1 16 n1 0)), (2, .int 0)] [1, 2, 0] d_Ne_copyFrom_57 rfl (by decide) rfl rfl rfl ?_
  obtain ⟨f58, h⟩ := h
  exact g_Ne_copyFrom_b58 hX hK hE hn  f58 n1 0 _ _ hn1 h
theorem cl_St_191 {X : sx_T} {K : sx_K} {cc : ByteArray} {nL : Nat} {ret : Option FieldType} {rm : Room} {l : Launch} {pc pc2 : Nat} {lv : List (Nat × Value)} {st : List Value} {σ : sx_M} {τ : sx_L} {n : Nat} {n1 : Nat} {Q : sx_M → Prop} (hX : sx_C X K cc nL "SensorTree" ret rm l) (hK : kx_C K) (h : wp_Ne_copyFrom n n1 σ Q) (hn : n < 25) (hn1 : n1 < 25) (hR : rm_Ne_copyFrom.frames + 1 ≤ rm.frames ∧ 8 + (3 + 11) + rm_Ne_copyFrom.locals ≤ rm.locals) (hst : (st.map fun v => v.category).sum ≤ 8) (hd : decode cc pc = .ok (.invokevirtual 191, 3)) (hpc : pc + 3 = pc2) (kk : ∀ (σ2 : sx_M) (τ2 : sx_L), Q σ2 → sx_G X K nL pc2 lv (st) (sx_H K σ2 τ2)) : sx_G X K nL pc lv (.ref (K.2.2.1 16 n1 0) :: .ref (K.2.2.1 16 n 0) :: st) (sx_H K σ τ) :=
  sx_callVv (Q := fun σ _ => Q σ) (As := [.ref (K.2.2.1 16 n1 0)]) hX (c_Ne_copyFrom hK n n1 σ τ Q hn hn1 h) (hK 16 n 0 hn (by decide)) rfl rfl lk_266 lk_267 hy_Ne_copyFrom lk_264 lk_47 lk_265 ⟨rfl, rfl⟩ hR hst rfl hd hpc kk
def y_Ne_isUp : MethodName := ⟨"SensorTree$Net", "isUp", "(I)Z"⟩
theorem hy_Ne_isUp : y_Ne_isUp.cls ≠ "java/lang/invoke/MethodHandle" ∧ y_Ne_isUp.cls ≠ "java/lang/invoke/VarHandle" ∧ (parseMethodDescriptor y_Ne_isUp.desc).map (fun d => d.parameters.length) = some 1 := by decide +kernel
theorem d_Ne_isUp_0 : decode prog_5_method_3_code 0 = .ok (.aload_n 0, 1) := by decide +kernel
theorem d_Ne_isUp_1 : decode prog_5_method_3_code 1 = .ok (.getfield 39, 3) := by decide +kernel
theorem d_Ne_isUp_4 : decode prog_5_method_3_code 4 = .ok (.iload_n 1, 1) := by decide +kernel
theorem d_Ne_isUp_5 : decode prog_5_method_3_code 5 = .ok (.iaload, 1) := by decide +kernel
theorem d_Ne_isUp_6 : decode prog_5_method_3_code 6 = .ok (.iconst 1, 1) := by decide +kernel
theorem d_Ne_isUp_7 : decode prog_5_method_3_code 7 = .ok (.if_icmp .ne 7, 3) := by decide +kernel
theorem d_Ne_isUp_10 : decode prog_5_method_3_code 10 = .ok (.iconst 1, 1) := by decide +kernel
theorem d_Ne_isUp_11 : decode prog_5_method_3_code 11 = .ok (.goto 4, 3) := by decide +kernel
theorem d_Ne_isUp_14 : decode prog_5_method_3_code 14 = .ok (.iconst 0, 1) := by decide +kernel
theorem d_Ne_isUp_15 : decode prog_5_method_3_code 15 = .ok (.ireturn, 1) := by decide +kernel
def wp_Ne_isUp_b15 (n : Nat)  (Q : Int32 → sx_M → Prop) (w0 : Int32) (σ : sx_M) : Prop := (w0 = 0 ∨ w0 = 1) ∧ (Q w0 σ)
def wp_Ne_isUp (n : Nat) (x1 : Int32) (σ : sx_M) (Q : Int32 → sx_M → Prop) : Prop := vp_in x1 16 ∧ (if σ 18 n 0 x1.toNatClampNeg = 1 then (wp_Ne_isUp_b15 n Q 1 σ) else (wp_Ne_isUp_b15 n Q 0 σ))
abbrev rm_Ne_isUp : Room := { frames := 0, cells := 0, slots := 0, locals := 0 }
set_option maxRecDepth 100000 in
set_option maxHeartbeats 4000000 in
theorem g_Ne_isUp_b15 {l : Launch} {K : sx_K} {X : sx_T} {n : Nat}  {Q : Int32 → sx_M → Prop} (hX : sx_C X K prog_5_method_3_code 2 "SensorTree$Net" (some .boolean) rm_Ne_isUp l) (hK : kx_C K) (hE : sx_E X K (sx_Qi K (fun r σ _ => Q r σ))) (hn : n < 25) (w0 : Int32) (σ : sx_M) (τ : sx_L)  (h : wp_Ne_isUp_b15 n Q  w0 σ) : sx_G X K 2 15 [] [.int w0] (sx_H K σ τ) := by
  unfold wp_Ne_isUp_b15 at h
  obtain ⟨hc1, h⟩ := h
  exact sx_zret hX hE hc1 h d_Ne_isUp_15
set_option maxRecDepth 100000 in
set_option maxHeartbeats 4000000 in
theorem c_Ne_isUp {l : Launch} {K : sx_K} (hK : kx_C K) (n : Nat) (x1 : Int32) (σ : sx_M) (τ : sx_L) (Q : Int32 → sx_M → Prop) (hn : n < 25) (h : wp_Ne_isUp n x1 σ Q) : Met l y_Ne_isUp (sx_wd y_Ne_isUp prog_5_method_3_code 2 (some .boolean)) rm_Ne_isUp (sx_Pc K [.ref (K.2.2.1 16 n 0), .int x1] σ τ) (sx_Qi K (fun r σ _ => Q r σ)) 0 0 (sx_A K) := by
  refine sx_met (by decide) (Nat.le_of_ble_eq_true rfl) (fun X hX hE => ?_)
  replace hX : sx_C X K prog_5_method_3_code 2 "SensorTree$Net" (some .boolean) rm_Ne_isUp l := hX
  show sx_G X K 2 0 [(0, .ref (K.2.2.1 16 n 0)), (1, .int x1)] [] (sx_H K σ τ)
  unfold wp_Ne_isUp at h
  refine sx_aload_n (pc2 := 1) hX 0 d_Ne_isUp_0 rfl rfl rfl ?_
  refine fg_Ne_39 (pc2 := 4) hX (hK 16 n 0 hn (by decide)) d_Ne_isUp_1 rfl ?_
  refine sx_iload_n (pc2 := 5) hX 1 d_Ne_isUp_4 rfl rfl rfl ?_
  obtain ⟨hc2, h⟩ := h
  refine sx_iald (pc2 := 6) hX (hK 18 n 0 hn (by decide)) rfl hc2 d_Ne_isUp_5 rfl ?_
  refine sx_iconst (v := 1) (pc2 := 7) hX d_Ne_isUp_6 (by decide) rfl ?_
  refine sx_icmp_ne (tgt := 14) (pc2 := 10) hX d_Ne_isUp_7 (by decide) rfl (fun hc3 => ?_) (fun hc3 => ?_)
  · replace h := sx_f h hc3
    refine sx_iconst (v := 0) (pc2 := 15) hX d_Ne_isUp_14 (by decide) rfl ?_
    refine sx_sub [] [] rfl ?_
    exact g_Ne_isUp_b15 hX hK hE hn  0 _ _ h
  · replace h := sx_t h hc3
    refine sx_iconst (v := 1) (pc2 := 11) hX d_Ne_isUp_10 (by decide) rfl ?_
    refine sx_goto (tgt := 15) hX d_Ne_isUp_11 (by decide) ?_
    refine sx_sub [] [] rfl ?_
    exact g_Ne_isUp_b15 hX hK hE hn  1 _ _ h
theorem cl_St_131 {X : sx_T} {K : sx_K} {cc : ByteArray} {nL : Nat} {ret : Option FieldType} {rm : Room} {l : Launch} {pc pc2 : Nat} {lv : List (Nat × Value)} {st : List Value} {σ : sx_M} {τ : sx_L} {n : Nat} {x1 : Int32} {Q : Int32 → sx_M → Prop} (hX : sx_C X K cc nL "SensorTree" ret rm l) (hK : kx_C K) (h : wp_Ne_isUp n x1 σ Q) (hn : n < 25) (hR : rm_Ne_isUp.frames + 1 ≤ rm.frames ∧ 8 + (2 + 11) + rm_Ne_isUp.locals ≤ rm.locals) (hst : (st.map fun v => v.category).sum ≤ 8) (hd : decode cc pc = .ok (.invokevirtual 131, 3)) (hpc : pc + 3 = pc2) (kk : ∀ (r : Int32) (σ2 : sx_M) (τ2 : sx_L), Q r σ2 → sx_G X K nL pc2 lv (.int r :: st) (sx_H K σ2 τ2)) : sx_G X K nL pc lv (.int x1 :: .ref (K.2.2.1 16 n 0) :: st) (sx_H K σ τ) :=
  sx_callVi (Q := fun r σ _ => Q r σ) (As := [.int x1]) hX (c_Ne_isUp hK n x1 σ τ Q hn h) (hK 16 n 0 hn (by decide)) rfl rfl lk_288 lk_289 hy_Ne_isUp lk_286 lk_47 lk_287 ⟨rfl, rfl⟩ hR hst rfl hd hpc kk
def y_Pl_isPost : MethodName := ⟨"SensorTree$Plan", "isPost", "(I)Z"⟩
theorem hy_Pl_isPost : y_Pl_isPost.cls ≠ "java/lang/invoke/MethodHandle" ∧ y_Pl_isPost.cls ≠ "java/lang/invoke/VarHandle" ∧ (parseMethodDescriptor y_Pl_isPost.desc).map (fun d => d.parameters.length) = some 1 := by decide +kernel
theorem d_Pl_isPost_0 : decode prog_6_method_4_code 0 = .ok (.iload_n 1, 1) := by decide +kernel
theorem d_Pl_isPost_1 : decode prog_6_method_4_code 1 = .ok (.ifCond .lt 15, 3) := by decide +kernel
theorem d_Pl_isPost_4 : decode prog_6_method_4_code 4 = .ok (.iload_n 1, 1) := by decide +kernel
theorem d_Pl_isPost_5 : decode prog_6_method_4_code 5 = .ok (.aload_n 0, 1) := by decide +kernel
theorem d_Pl_isPost_6 : decode prog_6_method_4_code 6 = .ok (.getfield 9, 3) := by decide +kernel
theorem d_Pl_isPost_9 : decode prog_6_method_4_code 9 = .ok (.if_icmp .ge 7, 3) := by decide +kernel
theorem d_Pl_isPost_12 : decode prog_6_method_4_code 12 = .ok (.iconst 1, 1) := by decide +kernel
theorem d_Pl_isPost_13 : decode prog_6_method_4_code 13 = .ok (.goto 4, 3) := by decide +kernel
theorem d_Pl_isPost_16 : decode prog_6_method_4_code 16 = .ok (.iconst 0, 1) := by decide +kernel
theorem d_Pl_isPost_17 : decode prog_6_method_4_code 17 = .ok (.ireturn, 1) := by decide +kernel
def wp_Pl_isPost_b17 (n : Nat)  (Q : Int32 → sx_M → Prop) (w0 : Int32) (σ : sx_M) : Prop := (w0 = 0 ∨ w0 = 1) ∧ (Q w0 σ)
def wp_Pl_isPost_b16 (n : Nat)  (Q : Int32 → sx_M → Prop)  (σ : sx_M) : Prop := wp_Pl_isPost_b17 n Q 0 σ
def wp_Pl_isPost (n : Nat) (x1 : Int32) (σ : sx_M) (Q : Int32 → sx_M → Prop) : Prop := if x1 < 0 then (wp_Pl_isPost_b16 n Q σ) else (if σ 8 n 0 0 ≤ x1 then (wp_Pl_isPost_b16 n Q σ) else (wp_Pl_isPost_b17 n Q 1 σ))
abbrev rm_Pl_isPost : Room := { frames := 0, cells := 0, slots := 0, locals := 0 }
set_option maxRecDepth 100000 in
set_option maxHeartbeats 4000000 in
theorem g_Pl_isPost_b17 {l : Launch} {K : sx_K} {X : sx_T} {n : Nat}  {Q : Int32 → sx_M → Prop} (hX : sx_C X K prog_6_method_4_code 2 "SensorTree$Plan" (some .boolean) rm_Pl_isPost l) (hK : kx_C K) (hE : sx_E X K (sx_Qi K (fun r σ _ => Q r σ))) (hn : n < 2) (w0 : Int32) (σ : sx_M) (τ : sx_L)  (h : wp_Pl_isPost_b17 n Q  w0 σ) : sx_G X K 2 17 [] [.int w0] (sx_H K σ τ) := by
  unfold wp_Pl_isPost_b17 at h
  obtain ⟨hc1, h⟩ := h
  exact sx_zret hX hE hc1 h d_Pl_isPost_17
set_option maxRecDepth 100000 in
set_option maxHeartbeats 4000000 in
theorem g_Pl_isPost_b16 {l : Launch} {K : sx_K} {X : sx_T} {n : Nat}  {Q : Int32 → sx_M → Prop} (hX : sx_C X K prog_6_method_4_code 2 "SensorTree$Plan" (some .boolean) rm_Pl_isPost l) (hK : kx_C K) (hE : sx_E X K (sx_Qi K (fun r σ _ => Q r σ))) (hn : n < 2)  (σ : sx_M) (τ : sx_L)  (h : wp_Pl_isPost_b16 n Q  σ) : sx_G X K 2 16 [] [] (sx_H K σ τ) := by
  unfold wp_Pl_isPost_b16 at h
  refine sx_iconst (v := 0) (pc2 := 17) hX d_Pl_isPost_16 (by decide) rfl ?_
  exact g_Pl_isPost_b17 hX hK hE hn  0 _ _ h
set_option maxRecDepth 100000 in
set_option maxHeartbeats 4000000 in
theorem c_Pl_isPost {l : Launch} {K : sx_K} (hK : kx_C K) (n : Nat) (x1 : Int32) (σ : sx_M) (τ : sx_L) (Q : Int32 → sx_M → Prop) (hn : n < 2) (h : wp_Pl_isPost n x1 σ Q) : Met l y_Pl_isPost (sx_wd y_Pl_isPost prog_6_method_4_code 2 (some .boolean)) rm_Pl_isPost (sx_Pc K [.ref (K.2.2.1 8 n 0), .int x1] σ τ) (sx_Qi K (fun r σ _ => Q r σ)) 0 0 (sx_A K) := by
  refine sx_met (by decide) (Nat.le_of_ble_eq_true rfl) (fun X hX hE => ?_)
  replace hX : sx_C X K prog_6_method_4_code 2 "SensorTree$Plan" (some .boolean) rm_Pl_isPost l := hX
  show sx_G X K 2 0 [(0, .ref (K.2.2.1 8 n 0)), (1, .int x1)] [] (sx_H K σ τ)
  unfold wp_Pl_isPost at h
  refine sx_iload_n (pc2 := 1) hX 1 d_Pl_isPost_0 rfl rfl rfl ?_
  refine sx_if_lt (tgt := 16) (pc2 := 4) hX d_Pl_isPost_1 (by decide) rfl (fun hc2 => ?_) (fun hc2 => ?_)
  · replace h := sx_t h hc2
    refine sx_sub [] [] rfl ?_
    exact g_Pl_isPost_b16 hX hK hE hn  _ _ h
  · replace h := sx_f h hc2
    refine sx_iload_n (pc2 := 5) hX 1 d_Pl_isPost_4 rfl rfl rfl ?_
    refine sx_aload_n (pc2 := 6) hX 0 d_Pl_isPost_5 rfl rfl rfl ?_
    refine fg_Pl_9 (pc2 := 9) hX (hK 8 n 0 hn (by decide)) d_Pl_isPost_6 rfl ?_
    refine sx_icmp_ge (tgt := 16) (pc2 := 12) hX d_Pl_isPost_9 (by decide) rfl (fun hc3 => ?_) (fun hc3 => ?_)
    · replace h := sx_t h hc3
      refine sx_sub [] [] rfl ?_
      exact g_Pl_isPost_b16 hX hK hE hn  _ _ h
    · replace h := sx_f h hc3
      refine sx_iconst (v := 1) (pc2 := 13) hX d_Pl_isPost_12 (by decide) rfl ?_
      refine sx_goto (tgt := 17) hX d_Pl_isPost_13 (by decide) ?_
      refine sx_sub [] [] rfl ?_
      exact g_Pl_isPost_b17 hX hK hE hn  1 _ _ h
theorem cl_Ne_105 {X : sx_T} {K : sx_K} {cc : ByteArray} {nL : Nat} {ret : Option FieldType} {rm : Room} {l : Launch} {pc pc2 : Nat} {lv : List (Nat × Value)} {st : List Value} {σ : sx_M} {τ : sx_L} {n : Nat} {x1 : Int32} {Q : Int32 → sx_M → Prop} (hX : sx_C X K cc nL "SensorTree$Net" ret rm l) (hK : kx_C K) (h : wp_Pl_isPost n x1 σ Q) (hn : n < 2) (hR : rm_Pl_isPost.frames + 1 ≤ rm.frames ∧ 8 + (2 + 11) + rm_Pl_isPost.locals ≤ rm.locals) (hst : (st.map fun v => v.category).sum ≤ 8) (hd : decode cc pc = .ok (.invokevirtual 105, 3)) (hpc : pc + 3 = pc2) (kk : ∀ (r : Int32) (σ2 : sx_M) (τ2 : sx_L), Q r σ2 → sx_G X K nL pc2 lv (.int r :: st) (sx_H K σ2 τ2)) : sx_G X K nL pc lv (.int x1 :: .ref (K.2.2.1 8 n 0) :: st) (sx_H K σ τ) :=
  sx_callVi (Q := fun r σ _ => Q r σ) (As := [.int x1]) hX (c_Pl_isPost hK n x1 σ τ Q hn h) (hK 8 n 0 hn (by decide)) rfl rfl lk_129 lk_130 hy_Pl_isPost lk_127 lk_126 lk_128 ⟨rfl, rfl⟩ hR hst rfl hd hpc kk
theorem cl_St_144 {X : sx_T} {K : sx_K} {cc : ByteArray} {nL : Nat} {ret : Option FieldType} {rm : Room} {l : Launch} {pc pc2 : Nat} {lv : List (Nat × Value)} {st : List Value} {σ : sx_M} {τ : sx_L} {n : Nat} {x1 : Int32} {Q : Int32 → sx_M → Prop} (hX : sx_C X K cc nL "SensorTree" ret rm l) (hK : kx_C K) (h : wp_Pl_isPost n x1 σ Q) (hn : n < 2) (hR : rm_Pl_isPost.frames + 1 ≤ rm.frames ∧ 8 + (2 + 11) + rm_Pl_isPost.locals ≤ rm.locals) (hst : (st.map fun v => v.category).sum ≤ 8) (hd : decode cc pc = .ok (.invokevirtual 144, 3)) (hpc : pc + 3 = pc2) (kk : ∀ (r : Int32) (σ2 : sx_M) (τ2 : sx_L), Q r σ2 → sx_G X K nL pc2 lv (.int r :: st) (sx_H K σ2 τ2)) : sx_G X K nL pc lv (.int x1 :: .ref (K.2.2.1 8 n 0) :: st) (sx_H K σ τ) :=
  sx_callVi (Q := fun r σ _ => Q r σ) (As := [.int x1]) hX (c_Pl_isPost hK n x1 σ τ Q hn h) (hK 8 n 0 hn (by decide)) rfl rfl lk_129 lk_130 hy_Pl_isPost lk_127 lk_126 lk_290 ⟨rfl, rfl⟩ hR hst rfl hd hpc kk
