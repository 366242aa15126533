/-- the cells of a plan alone -/
def kq_C (K : sx_K) : Prop := ∀ k n p, n = 1 → p < kx_pb k → 8 ≤ k → k < 15 → (k, n, p) ∈ K.2.2.2
set_option maxRecDepth 100000 in
set_option maxHeartbeats 4000000 in
theorem g_Pq_clear_b52 {l : Launch} {K : sx_K} {X : sx_T} {n : Nat} {k44 : Int32 → sx_M → Prop} {Q : sx_M → Prop} (hX : sx_C X K prog_6_method_2_code 3 "SensorTree$Plan" none rm_Pl_clear l) (hK : kq_C K) (hE : sx_E X K (sx_Qv K (fun σ _ => Q σ))) (hn : n = 1) (hk44 : ∀ (v1 : Int32) (σ : sx_M) (τ : sx_L) , k44 v1 σ → sx_G X K 3 44 [(0, .ref (K.2.2.1 8 n 0)), (1, .int v1)] [] (sx_H K σ τ)) : ∀ (f : Nat) (v1 : Int32) (v2 : Int32) (σ : sx_M) (τ : sx_L) , wp_Pl_clear_b52 n k44 Q f v1 v2 σ → sx_G X K 3 52 [(0, .ref (K.2.2.1 8 n 0)), (1, .int v1), (2, .int v2)] [] (sx_H K σ τ) := by
  intro f
  induction f with
  | zero => intro v1 v2 σ τ h; exact (show False from h).elim
  | succ f ih =>
    intro v1 v2 σ τ h
    rw [wp_Pl_clear_b52] at h
    refine sx_iload_n (pc2 := 53) hX 2 d_Pl_clear_52 rfl rfl rfl ?_
    refine sx_bipush (v := 7) (pc2 := 55) hX d_Pl_clear_53 (by decide) rfl ?_
    refine sx_icmp_ge (tgt := 73) (pc2 := 58) hX d_Pl_clear_55 (by decide) rfl (fun hc1 => ?_) (fun hc1 => ?_)
    · replace h := sx_t h hc1
      refine sx_iinc (pc2 := 76) hX 1 _ [(0, .ref (K.2.2.1 8 n 0)), (1, .int (v1 + 1)), (2, .int v2)] [1, 0, 2] d_Pl_clear_73 rfl (v1 + 1) rfl (by decide) rfl rfl rfl ?_
      refine sx_goto (tgt := 44) hX d_Pl_clear_76 (by decide) ?_
      refine sx_sub [(0, .ref (K.2.2.1 8 n 0)), (1, .int (v1 + 1))] [0, 1] rfl ?_
      exact hk44 (v1 + 1) _ _ h
    · replace h := sx_f h hc1
      refine sx_aload_n (pc2 := 59) hX 0 d_Pl_clear_58 rfl rfl rfl ?_
      refine fg_Pl_30 (pc2 := 62) hX (hK 8 n 0 hn (by decide) (by decide) (by decide)) d_Pl_clear_59 rfl ?_
      refine sx_iload_n (pc2 := 63) hX 1 d_Pl_clear_62 rfl rfl rfl ?_
      obtain ⟨hc2, h⟩ := h
      refine sx_aalA (a := K.2.2.1 13 n v1.toNatClampNeg) (pc2 := 64) hX (hK 12 n 0 hn (by decide) (by decide) (by decide)) rfl rfl hc2 d_Pl_clear_63 rfl ?_
      refine sx_iload_n (pc2 := 65) hX 2 d_Pl_clear_64 rfl rfl rfl ?_
      refine sx_iconst (v := (-1)) (pc2 := 66) hX d_Pl_clear_65 (by decide) rfl ?_
      obtain ⟨hc3, h⟩ := h
      refine sx_iast (pc2 := 67) hX (hK 13 n v1.toNatClampNeg hn (sx_lt hc2) (by decide) (by decide)) (fun _ => rfl) hc3 d_Pl_clear_66 rfl ?_
      refine sx_nm (fun σ4 e4 => ?_)
      replace h := h σ4 e4
      refine sx_iinc (pc2 := 70) hX 2 _ [(0, .ref (K.2.2.1 8 n 0)), (1, .int v1), (2, .int (v2 + 1))] [1, 2, 0] d_Pl_clear_67 rfl (v2 + 1) rfl (by decide) rfl rfl rfl ?_
      refine sx_goto (tgt := 52) hX d_Pl_clear_70 (by decide) ?_
      exact ih v1 (v2 + 1) _ _ h
set_option maxRecDepth 100000 in
set_option maxHeartbeats 4000000 in
theorem g_Pq_clear_b44 {l : Launch} {K : sx_K} {X : sx_T} {n : Nat}  {Q : sx_M → Prop} (hX : sx_C X K prog_6_method_2_code 3 "SensorTree$Plan" none rm_Pl_clear l) (hK : kq_C K) (hE : sx_E X K (sx_Qv K (fun σ _ => Q σ))) (hn : n = 1) : ∀ (f : Nat) (v1 : Int32) (σ : sx_M) (τ : sx_L) , wp_Pl_clear_b44 n Q f v1 σ → sx_G X K 3 44 [(0, .ref (K.2.2.1 8 n 0)), (1, .int v1)] [] (sx_H K σ τ) := by
  intro f
  induction f with
  | zero => intro v1 σ τ h; exact (show False from h).elim
  | succ f ih =>
    intro v1 σ τ h
    rw [wp_Pl_clear_b44] at h
    refine sx_iload_n (pc2 := 45) hX 1 d_Pl_clear_44 rfl rfl rfl ?_
    refine sx_bipush (v := 7) (pc2 := 47) hX d_Pl_clear_45 (by decide) rfl ?_
    refine sx_icmp_ge (tgt := 79) (pc2 := 50) hX d_Pl_clear_47 (by decide) rfl (fun hc5 => ?_) (fun hc5 => ?_)
    · replace h := sx_t h hc5
      exact sx_vret hX hE h d_Pl_clear_79
    · replace h := sx_f h hc5
      refine sx_iconst (v := 0) (pc2 := 51) hX d_Pl_clear_50 (by decide) rfl ?_
      refine sx_istore_n (pc2 := 52) hX _ [(0, .ref (K.2.2.1 8 n 0)), (1, .int v1), (2, .int 0)] [1, 2, 0] d_Pl_clear_51 rfl (by decide) rfl rfl rfl ?_
      obtain ⟨f52, h⟩ := h
      exact g_Pq_clear_b52 hX hK hE hn ih f52 v1 0 _ _ h
set_option maxRecDepth 100000 in
set_option maxHeartbeats 4000000 in
theorem g_Pq_clear_b17 {l : Launch} {K : sx_K} {X : sx_T} {n : Nat}  {Q : sx_M → Prop} (hX : sx_C X K prog_6_method_2_code 3 "SensorTree$Plan" none rm_Pl_clear l) (hK : kq_C K) (hE : sx_E X K (sx_Qv K (fun σ _ => Q σ))) (hn : n = 1) : ∀ (f : Nat) (v1 : Int32) (σ : sx_M) (τ : sx_L) , wp_Pl_clear_b17 n Q f v1 σ → sx_G X K 3 17 [(0, .ref (K.2.2.1 8 n 0)), (1, .int v1)] [] (sx_H K σ τ) := by
  intro f
  induction f with
  | zero => intro v1 σ τ h; exact (show False from h).elim
  | succ f ih =>
    intro v1 σ τ h
    rw [wp_Pl_clear_b17] at h
    refine sx_iload_n (pc2 := 18) hX 1 d_Pl_clear_17 rfl rfl rfl ?_
    refine sx_gets (pc2 := 21) hX hX.2.2.2.2.2.2.2.2.2.2.2.1.2.1.1 lk_8 d_Pl_clear_18 rfl ?_
    refine sx_stlen (v := 9) (pc2 := 22) hX hX.2.2.2.2.2.2.2.2.2.2.2.1.2.1.2 (by decide) d_Pl_clear_21 rfl ?_
    refine sx_icmp_ge (tgt := 42) (pc2 := 25) hX d_Pl_clear_22 (by decide) rfl (fun hc6 => ?_) (fun hc6 => ?_)
    · replace h := sx_t h hc6
      refine sx_iconst (v := 0) (pc2 := 43) hX d_Pl_clear_42 (by decide) rfl ?_
      refine sx_istore_n (pc2 := 44) hX _ [(0, .ref (K.2.2.1 8 n 0)), (1, .int 0)] [1, 0] d_Pl_clear_43 rfl (by decide) rfl rfl rfl ?_
      obtain ⟨f44, h⟩ := h
      exact g_Pq_clear_b44 hX hK hE hn  f44 0 _ _ h
    · replace h := sx_f h hc6
      refine sx_aload_n (pc2 := 26) hX 0 d_Pl_clear_25 rfl rfl rfl ?_
      refine fg_Pl_36 (pc2 := 29) hX (hK 8 n 0 hn (by decide) (by decide) (by decide)) d_Pl_clear_26 rfl ?_
      refine sx_iload_n (pc2 := 30) hX 1 d_Pl_clear_29 rfl rfl rfl ?_
      refine sx_gets (pc2 := 33) hX hX.2.2.2.2.2.2.2.2.2.2.2.1.2.1.1 lk_8 d_Pl_clear_30 rfl ?_
      refine sx_iload_n (pc2 := 34) hX 1 d_Pl_clear_33 rfl rfl rfl ?_
      obtain ⟨hc7, h⟩ := h
      refine sx_sti (pc2 := 35) hX hX.2.2.2.2.2.2.2.2.2.2.2.1.2.1.2 hc7 d_Pl_clear_34 rfl ?_
      obtain ⟨hc8, h⟩ := h
      refine sx_iast (pc2 := 36) hX (hK 14 n 0 hn (by decide) (by decide) (by decide)) (fun _ => rfl) hc8 d_Pl_clear_35 rfl ?_
      refine sx_nm (fun σ9 e9 => ?_)
      replace h := h σ9 e9
      refine sx_iinc (pc2 := 39) hX 1 _ [(0, .ref (K.2.2.1 8 n 0)), (1, .int (v1 + 1))] [1, 0] d_Pl_clear_36 rfl (v1 + 1) rfl (by decide) rfl rfl rfl ?_
      refine sx_goto (tgt := 17) hX d_Pl_clear_39 (by decide) ?_
      exact ih (v1 + 1) _ _ h
set_option maxRecDepth 100000 in
set_option maxHeartbeats 4000000 in
theorem c_Pq_clear {l : Launch} {K : sx_K} (hK : kq_C K) (n : Nat) (σ : sx_M) (τ : sx_L) (Q : sx_M → Prop) (hn : n = 1) (h : wp_Pl_clear n σ Q) : Met l y_Pl_clear (sx_wd y_Pl_clear prog_6_method_2_code 3 none) rm_Pl_clear (sx_Pc K [.ref (K.2.2.1 8 n 0)] σ τ) (sx_Qv K (fun σ _ => Q σ)) 0 0 (sx_A K) := by
  refine sx_met (by decide) (Nat.le_of_ble_eq_true rfl) (fun X hX hE => ?_)
  replace hX : sx_C X K prog_6_method_2_code 3 "SensorTree$Plan" none rm_Pl_clear l := hX
  show sx_G X K 3 0 [(0, .ref (K.2.2.1 8 n 0))] [] (sx_H K σ τ)
  unfold wp_Pl_clear at h
  refine sx_aload_n (pc2 := 1) hX 0 d_Pl_clear_0 rfl rfl rfl ?_
  refine sx_iconst (v := 0) (pc2 := 2) hX d_Pl_clear_1 (by decide) rfl ?_
  refine fp_Pl_9 (pc2 := 5) hX (hK 8 n 0 hn (by decide) (by decide) (by decide)) d_Pl_clear_2 rfl ?_
  refine sx_nm (fun σ10 e10 => ?_)
  replace h := h σ10 e10
  refine sx_aload_n (pc2 := 6) hX 0 d_Pl_clear_5 rfl rfl rfl ?_
  refine sx_iconst (v := 0) (pc2 := 7) hX d_Pl_clear_6 (by decide) rfl ?_
  refine fp_Pl_15 (pc2 := 10) hX (hK 8 n 0 hn (by decide) (by decide) (by decide)) d_Pl_clear_7 rfl ?_
  refine sx_nm (fun σ11 e11 => ?_)
  replace h := h σ11 e11
  refine sx_aload_n (pc2 := 11) hX 0 d_Pl_clear_10 rfl rfl rfl ?_
  refine sx_iconst (v := 0) (pc2 := 12) hX d_Pl_clear_11 (by decide) rfl ?_
  refine fp_Pl_39 (pc2 := 15) hX (by decide) (hK 8 n 0 hn (by decide) (by decide) (by decide)) d_Pl_clear_12 rfl ?_
  refine sx_nm (fun σ12 e12 => ?_)
  replace h := h σ12 e12
  refine sx_iconst (v := 0) (pc2 := 16) hX d_Pl_clear_15 (by decide) rfl ?_
  refine sx_istore_n (pc2 := 17) hX _ [(0, .ref (K.2.2.1 8 n 0)), (1, .int 0)] [1, 0] d_Pl_clear_16 rfl (by decide) rfl rfl rfl ?_
  obtain ⟨f17, h⟩ := h
  exact g_Pq_clear_b17 hX hK hE hn  f17 0 _ _ h
