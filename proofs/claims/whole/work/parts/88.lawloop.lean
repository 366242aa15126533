section LAWC
variable {X : sx_T} {KC KR : sx_K} {b L i : Nat} {xs : Nat → Int32} {l : Launch} {σ ρ : sx_M} {τ θ : sx_L}
theorem lw_sw (C : lx_C X KC KR b L xs l) (hi : i + 6 ≤ L) (hI : pn_I σ ρ θ) (kk : lx_next X KC KR b i) (x : Int32) : lx_G X 33 (lx_lv KC KR b i) [.int x] (lx_H KC KR σ τ ρ θ) := by
  by_cases h0 : x = 0
  · exact lx_swi (tgt := 196) C.1 0 h0 d_lw_33 (by decide) (by decide) rfl (by decide) (lw_c0 C hi hI kk)
  by_cases h1 : x = 1
  · exact lx_swi (tgt := 259) C.1 1 h1 d_lw_33 (by decide) (by decide) rfl (by decide) (lw_c1 C hi hI kk)
  by_cases h2 : x = 2
  · exact lx_swi (tgt := 282) C.1 2 h2 d_lw_33 (by decide) (by decide) rfl (by decide) (lw_c2 C hi hI kk)
  by_cases h3 : x = 3
  · exact lx_swi (tgt := 295) C.1 3 h3 d_lw_33 (by decide) (by decide) rfl (by decide) (lw_c3 C hi hI kk)
  by_cases h4 : x = 4
  · exact lx_swi (tgt := 308) C.1 4 h4 d_lw_33 (by decide) (by decide) rfl (by decide) (lw_c4 C hi hI kk)
  by_cases h5 : x = 5
  · exact lx_swi (tgt := 331) C.1 5 h5 d_lw_33 (by decide) (by decide) rfl (by decide) (lw_c5 C hi hI kk)
  by_cases h6 : x = 6
  · exact lx_swi (tgt := 380) C.1 6 h6 d_lw_33 (by decide) (by decide) rfl (by decide) (lw_c6 C hi hI kk)
  by_cases h7 : x = 7
  · exact lx_swi (tgt := 413) C.1 7 h7 d_lw_33 (by decide) (by decide) rfl (by decide) (lw_c7 C hi hI kk)
  by_cases h8 : x = 8
  · exact lx_swi (tgt := 462) C.1 8 h8 d_lw_33 (by decide) (by decide) rfl (by decide) (lw_c8 C hi hI kk)
  by_cases h9 : x = 9
  · exact lx_swi (tgt := 475) C.1 9 h9 d_lw_33 (by decide) (by decide) rfl (by decide) (lw_c9 C hi hI kk)
  by_cases h10 : x = 10
  · exact lx_swi (tgt := 508) C.1 10 h10 d_lw_33 (by decide) (by decide) rfl (by decide) (lw_c10 C hi hI kk)
  by_cases h11 : x = 11
  · exact lx_swi (tgt := 521) C.1 11 h11 d_lw_33 (by decide) (by decide) rfl (by decide) (lw_c11 C hi hI kk)
  by_cases h12 : x = 12
  · exact lx_swi (tgt := 554) C.1 12 h12 d_lw_33 (by decide) (by decide) rfl (by decide) (lw_c12 C hi hI kk)
  by_cases h13 : x = 13
  · exact lx_swi (tgt := 587) C.1 13 h13 d_lw_33 (by decide) (by decide) rfl (by decide) (lw_c13 C hi hI kk)
  by_cases h14 : x = 14
  · exact lx_swi (tgt := 630) C.1 14 h14 d_lw_33 (by decide) (by decide) rfl (by decide) (lw_c14 C hi hI kk)
  by_cases h15 : x = 15
  · exact lx_swi (tgt := 663) C.1 15 h15 d_lw_33 (by decide) (by decide) rfl (by decide) (lw_c15 C hi hI kk)
  by_cases h16 : x = 16
  · exact lx_swi (tgt := 686) C.1 16 h16 d_lw_33 (by decide) (by decide) rfl (by decide) (lw_c16 C hi hI kk)
  by_cases h17 : x = 17
  · exact lx_swi (tgt := 709) C.1 17 h17 d_lw_33 (by decide) (by decide) rfl (by decide) (lw_c17 C hi hI kk)
  by_cases h18 : x = 18
  · exact lx_swi (tgt := 722) C.1 18 h18 d_lw_33 (by decide) (by decide) rfl (by decide) (lw_c18 C hi hI kk)
  by_cases h19 : x = 19
  · exact lx_swi (tgt := 735) C.1 19 h19 d_lw_33 (by decide) (by decide) rfl (by decide) (lw_c19 C hi hI kk)
  by_cases h20 : x = 20
  · exact lx_swi (tgt := 758) C.1 20 h20 d_lw_33 (by decide) (by decide) rfl (by decide) (lw_c20 C hi hI kk)
  by_cases h21 : x = 21
  · exact lx_swi (tgt := 791) C.1 21 h21 d_lw_33 (by decide) (by decide) rfl (by decide) (lw_c21 C hi hI kk)
  by_cases h22 : x = 22
  · exact lx_swi (tgt := 834) C.1 22 h22 d_lw_33 (by decide) (by decide) rfl (by decide) (lw_c22 C hi hI kk)
  by_cases h23 : x = 23
  · exact lx_swi (tgt := 877) C.1 23 h23 d_lw_33 (by decide) (by decide) rfl (by decide) (lw_c23 C hi hI kk)
  by_cases h24 : x = 24
  · exact lx_swi (tgt := 890) C.1 24 h24 d_lw_33 (by decide) (by decide) rfl (by decide) (lw_c24 C hi hI kk)
  by_cases h25 : x = 25
  · exact lx_swi (tgt := 913) C.1 25 h25 d_lw_33 (by decide) (by decide) rfl (by decide) (lw_c25 C hi hI kk)
  by_cases h26 : x = 26
  · exact lx_swi (tgt := 936) C.1 26 h26 d_lw_33 (by decide) (by decide) rfl (by decide) (lw_c26 C hi hI kk)
  by_cases h27 : x = 27
  · exact lx_swi (tgt := 959) C.1 27 h27 d_lw_33 (by decide) (by decide) rfl (by decide) (lw_c27 C hi hI kk)
  by_cases h28 : x = 28
  · exact lx_swi (tgt := 982) C.1 28 h28 d_lw_33 (by decide) (by decide) rfl (by decide) (lw_c28 C hi hI kk)
  by_cases h29 : x = 29
  · exact lx_swi (tgt := 995) C.1 29 h29 d_lw_33 (by decide) (by decide) rfl (by decide) (lw_c29 C hi hI kk)
  by_cases h30 : x = 30
  · exact lx_swi (tgt := 1008) C.1 30 h30 d_lw_33 (by decide) (by decide) rfl (by decide) (lw_c30 C hi hI kk)
  by_cases h31 : x = 31
  · exact lx_swi (tgt := 1031) C.1 31 h31 d_lw_33 (by decide) (by decide) rfl (by decide) (lw_c31 C hi hI kk)
  by_cases h32 : x = 32
  · exact lx_swi (tgt := 1044) C.1 32 h32 d_lw_33 (by decide) (by decide) rfl (by decide) (lw_c32 C hi hI kk)
  by_cases h33 : x = 33
  · exact lx_swi (tgt := 1087) C.1 33 h33 d_lw_33 (by decide) (by decide) rfl (by decide) (lw_c33 C hi hI kk)
  by_cases h34 : x = 34
  · exact lx_swi (tgt := 1120) C.1 34 h34 d_lw_33 (by decide) (by decide) rfl (by decide) (lw_c34 C hi hI kk)
  by_cases h35 : x = 35
  · exact lx_swi (tgt := 1143) C.1 35 h35 d_lw_33 (by decide) (by decide) rfl (by decide) (lw_c35 C hi hI kk)
  by_cases h36 : x = 36
  · exact lx_swi (tgt := 1166) C.1 36 h36 d_lw_33 (by decide) (by decide) rfl (by decide) (lw_c36 C hi hI kk)
  exact lx_swo (tgt := 1189) C.1 d_lw_33 (sx_out x 36 (fun j hj => match j, hj with | 0, _ => h0 | 1, _ => h1 | 2, _ => h2 | 3, _ => h3 | 4, _ => h4 | 5, _ => h5 | 6, _ => h6 | 7, _ => h7 | 8, _ => h8 | 9, _ => h9 | 10, _ => h10 | 11, _ => h11 | 12, _ => h12 | 13, _ => h13 | 14, _ => h14 | 15, _ => h15 | 16, _ => h16 | 17, _ => h17 | 18, _ => h18 | 19, _ => h19 | 20, _ => h20 | 21, _ => h21 | 22, _ => h22 | 23, _ => h23 | 24, _ => h24 | 25, _ => h25 | 26, _ => h26 | 27, _ => h27 | 28, _ => h28 | 29, _ => h29 | 30, _ => h30 | 31, _ => h31 | 32, _ => h32 | 33, _ => h33 | 34, _ => h34 | 35, _ => h35 | 36, _ => h36 | j + 37, hj => absurd hj (by omega)) (by decide)) (by decide) (kk σ τ ρ θ hI)
theorem lx_gt {i L : Nat} (hi : i < 2 ^ 30) (hL : L < 2 ^ 30) : (nI L - 6 < nI i) ↔ ¬ i + 6 ≤ L := by
  by_cases h : 6 ≤ L
  · have e : nI L - 6 = nI (L - 6) := by
      have e6 : (6 : Int32) = nI 6 := rfl
      have e2 : nI L = nI (L - 6) + nI 6 := by rw [nI_add]; congr 1; omega
      rw [e2, e6, Int32.add_sub_cancel]
    rw [e, nI_ltI (by omega) (by omega)]
    omega
  · have hz : (0 : Int32) ≤ nI i := by
      have h0 : nI 0 ≤ nI i := (nI_leI (by omega) (by omega)).mpr (Nat.zero_le _)
      exact h0
    have hn : nI L - 6 < 0 := by
      have h6 : L = 0 ∨ L = 1 ∨ L = 2 ∨ L = 3 ∨ L = 4 ∨ L = 5 := by omega
      rcases h6 with rfl | rfl | rfl | rfl | rfl | rfl <;> decide
    exact ⟨fun _ => by omega, fun _ => Int32.lt_of_lt_of_le hn hz⟩
/-- the law's end -/
theorem lw_end (C : lx_C X KC KR b L xs l) {lv : List (Nat × Value)} {P : Heap → Prop} : lx_G X 1195 lv [] P := by
  refine sx_iconst (v := 1) (pc2 := 1196) C.1 d_lw_1195 rfl rfl ?_
  intro H locs ls hP hS hl
  have h7 := C.1.2.2.2.2.2.2.1
  have h8 : sx_rm X = room_1 := C.1.2.2.2.2.2.2.2.1
  have ha := C.2.2.2.2.2.1
  have hq := C.2.2.2.2.2.2
  unfold sx_W
  rw [h8] at h7 ⊢
  rw [ha, hq]
  refine va_forget hS.2.2 (W.widen h7.2.1 h7.2.2 ?_)
  exact lw_ret C.1.1 C.1.2.1 C.1.2.2.1 h7.1 d_lw_1196
/-- the law's loop -/
theorem lw_loop (C : lx_C X KC KR b L xs l) : ∀ (c i : Nat) (σ : sx_M) (τ : sx_L) (ρ : sx_M) (θ : sx_L), L ≤ i + 6 * c → i ≤ 4000 → pn_I σ ρ θ → lx_G X 18 (lx_lv KC KR b i) [] (lx_H KC KR σ τ ρ θ) := by
  have hL := C.2.2.1.2.2
  have key : ∀ (i : Nat) (σ : sx_M) (τ : sx_L) (ρ : sx_M) (θ : sx_L), i ≤ 4000 → pn_I σ ρ θ → (i + 6 ≤ L → lx_next X KC KR b i) → lx_G X 18 (lx_lv KC KR b i) [] (lx_H KC KR σ τ ρ θ) := by
    intro i σ τ ρ θ hi4 hI kk
    refine sx_iload_n (pc2 := 19) C.1 0 d_lw_18 rfl rfl rfl ?_
    refine sx_aload_n (pc2 := 20) C.1 1 d_lw_19 rfl rfl rfl ?_
    refine lx_slen (pc2 := 21) C d_lw_20 rfl ?_
    refine sx_bipush (v := 6) (pc2 := 23) C.1 d_lw_21 (by decide) rfl ?_
    refine sx_isub (pc2 := 24) C.1 d_lw_23 rfl ?_
    refine sx_icmp_gt (pc2 := 27) (tgt := 1195) C.1 d_lw_24 (by decide) rfl (fun _ => lw_end C) (fun hq => ?_)
    rw [lx_gt (by omega) (by omega), Classical.not_not] at hq
    refine sx_aload_n (pc2 := 28) C.1 1 d_lw_27 rfl rfl rfl ?_
    refine sx_iload_n (pc2 := 29) C.1 0 d_lw_28 rfl rfl rfl ?_
    refine lx_sld (pc2 := 30) (j := i) C rfl (by omega) d_lw_29 rfl ?_
    refine sx_bipush (v := 63) (pc2 := 32) C.1 d_lw_30 (by decide) rfl ?_
    refine sx_iand (pc2 := 33) C.1 d_lw_32 rfl ?_
    exact lw_sw C hq hI (kk hq) _
  intro c
  induction c with
  | zero => exact fun i σ τ ρ θ h1 h2 hI => key i σ τ ρ θ h2 hI (fun h => absurd h (by omega))
  | succ c ih =>
    intro i σ τ ρ θ h1 h2 hI
    refine key i σ τ ρ θ h2 hI (fun h σ2 τ2 ρ2 θ2 hI2 => ?_)
    refine sx_iinc (pc2 := 1192) C.1 0 _ (lx_lv KC KR b (i + 6)) [0, 1, 2, 3] d_lw_1189 rfl (nI (i + 6)) (nI_add i 6) (by decide) rfl rfl rfl ?_
    refine sx_goto (tgt := 18) C.1 d_lw_1192 (by decide) ?_
    exact ih (i + 6) σ2 τ2 ρ2 θ2 (by omega) (by omega) hI2
end LAWC
