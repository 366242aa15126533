
def nt_fs (s0 pl : Nat) : List Value := [.ref pl, .int 0, .int 0, .int 0, .int 0, .int 0, .int 0, .int 0, .ref (s0 + 0), .ref (s0 + 1), .ref (s0 + 2), .ref (s0 + 3)]
def nt_es (K : sx_K) (s0 : Nat) : List va_E := [.inl (K.2.1 4, 7, .inr (.inr (.inr (.inr (va_up (va_up (va_up (va_up (va_up (va_up (va_up (fun _ => none) 0 (some (s0 + 10))) 1 (some (s0 + 14))) 2 (some (s0 + 18))) 3 (some (s0 + 22))) 4 (some (s0 + 26))) 5 (some (s0 + 30))) 6 (some (s0 + 34))))))), .inl (K.2.1 0, 16, .inl (fun _ => 0)), .inl (K.2.1 0, 16, .inl (fun _ => 0)), .inr (2, [.int 0, .ref (s0 + 4), .ref (s0 + 5), .ref (s0 + 6), .ref (s0 + 7), .ref (s0 + 8), .ref (s0 + 9)]), .inl (K.2.1 0, 200, .inl (fun _ => 0)), .inl (K.2.1 0, 200, .inl (fun _ => 0)), .inl (K.2.1 0, 200, .inl (fun _ => 0)), .inl (K.2.1 0, 200, .inl (fun _ => 0)), .inl (K.2.1 0, 200, .inl (fun _ => 0)), .inl (K.2.1 0, 200, .inl (fun _ => 0)), .inr (5, [.int 0, .int 0, .int 0, .int 0, .int 0, .int 0, .int 0, .int 0, .int 0, .int 0, .int 0, .ref (s0 + 11), .ref (s0 + 12), .ref (s0 + 13)]), .inl (K.2.1 0, 7, .inl (fun _ => 0)), .inl (K.2.1 0, 7, .inl (fun _ => 0)), .inl (K.2.1 0, 7, .inl (fun _ => 0)), .inr (5, [.int 0, .int 0, .int 0, .int 0, .int 0, .int 0, .int 0, .int 0, .int 0, .int 0, .int 0, .ref (s0 + 15), .ref (s0 + 16), .ref (s0 + 17)]), .inl (K.2.1 0, 7, .inl (fun _ => 0)), .inl (K.2.1 0, 7, .inl (fun _ => 0)), .inl (K.2.1 0, 7, .inl (fun _ => 0)), .inr (5, [.int 0, .int 0, .int 0, .int 0, .int 0, .int 0, .int 0, .int 0, .int 0, .int 0, .int 0, .ref (s0 + 19), .ref (s0 + 20), .ref (s0 + 21)]), .inl (K.2.1 0, 7, .inl (fun _ => 0)), .inl (K.2.1 0, 7, .inl (fun _ => 0)), .inl (K.2.1 0, 7, .inl (fun _ => 0)), .inr (5, [.int 0, .int 0, .int 0, .int 0, .int 0, .int 0, .int 0, .int 0, .int 0, .int 0, .int 0, .ref (s0 + 23), .ref (s0 + 24), .ref (s0 + 25)]), .inl (K.2.1 0, 7, .inl (fun _ => 0)), .inl (K.2.1 0, 7, .inl (fun _ => 0)), .inl (K.2.1 0, 7, .inl (fun _ => 0)), .inr (5, [.int 0, .int 0, .int 0, .int 0, .int 0, .int 0, .int 0, .int 0, .int 0, .int 0, .int 0, .ref (s0 + 27), .ref (s0 + 28), .ref (s0 + 29)]), .inl (K.2.1 0, 7, .inl (fun _ => 0)), .inl (K.2.1 0, 7, .inl (fun _ => 0)), .inl (K.2.1 0, 7, .inl (fun _ => 0)), .inr (5, [.int 0, .int 0, .int 0, .int 0, .int 0, .int 0, .int 0, .int 0, .int 0, .int 0, .int 0, .ref (s0 + 31), .ref (s0 + 32), .ref (s0 + 33)]), .inl (K.2.1 0, 7, .inl (fun _ => 0)), .inl (K.2.1 0, 7, .inl (fun _ => 0)), .inl (K.2.1 0, 7, .inl (fun _ => 0)), .inr (5, [.int 0, .int 0, .int 0, .int 0, .int 0, .int 0, .int 0, .int 0, .int 0, .int 0, .int 0, .ref (s0 + 35), .ref (s0 + 36), .ref (s0 + 37)]), .inl (K.2.1 0, 7, .inl (fun _ => 0)), .inl (K.2.1 0, 7, .inl (fun _ => 0)), .inl (K.2.1 0, 7, .inl (fun _ => 0))]
/-- a net and its cells -/
def nt_al (K : sx_K) (s0 pl : Nat) : List va_E := .inr (3, nt_fs s0 pl) :: nt_es K s0
/-- i nets are made -/
def st_R (K : sx_K) (s0 : Nat) (E0 : List va_E) (kA N m0 : Nat) (es : List va_E) (i : Nat) : Prop :=
  es.length = m0 + 39 * i ∧ (∀ r, r < m0 → r ≠ kA → es[r]? = E0[r]?) ∧ (∃ f : Nat → Option Nat, es[kA]? = some (.inl (K.2.1 5, N, .inr (.inr (.inr (.inr f))))) ∧ ∀ j, j < i → f j = some (s0 + (m0 + 39 * j))) ∧
  ∀ j r, j < i → r < 39 → es[m0 + 39 * j + r]? = (nt_al K (s0 + (m0 + 39 * j) + 1) (s0 + 21))[r]?
theorem st_R.step {K : sx_K} {s0 kA N m0 i : Nat} {E0 es : List va_E} {f : Nat → Option Nat} (h : st_R K s0 E0 kA N m0 es i) (hk : kA < m0) (hf : es[kA]? = some (.inl (K.2.1 5, N, .inr (.inr (.inr (.inr f)))))) (hf2 : ∀ j, j < i → f j = some (s0 + (m0 + 39 * j))) : st_R K s0 E0 kA N m0 ((es ++ .inr (3, nt_fs (s0 + (m0 + 39 * i) + 1) (s0 + 21)) :: nt_es K (s0 + (m0 + 39 * i) + 1)).set kA (.inl (K.2.1 5, N, .inr (.inr (.inr (.inr (va_up f i (some (s0 + (m0 + 39 * i)))))))))) (i + 1) := by
  obtain ⟨h1, h2, -, h4⟩ := h
  have hl : (es ++ (.inr (3, nt_fs (s0 + (m0 + 39 * i) + 1) (s0 + 21)) :: nt_es K (s0 + (m0 + 39 * i) + 1) : List va_E)).length = m0 + 39 * i + 39 := by rw [List.length_append, h1]; rfl
  refine ⟨by rw [List.length_set, hl]; omega, fun r hr hne => ?_, ⟨_, List.getElem?_set_self (by rw [hl]; omega), fun j hj => ?_⟩, fun j r hj hr => ?_⟩
  · rw [List.getElem?_set_ne (Ne.symm hne), List.getElem?_append_left (by omega)]
    exact h2 r hr hne
  · unfold va_up
    by_cases hji : j = i
    · rw [if_pos hji, hji]
    · rw [if_neg hji]
      exact hf2 j (by omega)
  · rw [List.getElem?_set_ne (by omega)]
    by_cases hji : j = i
    · subst hji
      rw [List.getElem?_append_right (by omega), h1, show m0 + 39 * j + r - (m0 + 39 * j) = r by omega]
      rfl
    · rw [List.getElem?_append_left (by omega)]
      exact h4 j r (by omega) hr
section TREE
variable {Y : sx_T} {K : sx_K} {l : Launch} {h0 s0 : Nat}
set_option maxHeartbeats 4000000 in
theorem st_it1 (hA0 : sx_A K h0) (hAS : ∀ j, j < 1033 → sx_A K (s0 + j)) (hC : ct_C Y K prog_1_method_1_code 2 "SensorTree" none rm_St_init l) (hN : ct_N (sx_s Y)) (hz : (sx_s Y).heap.size = s0) {i n a c : Nat} {es : List va_E} {f : Nat → Option Nat} (hi : i < 20) (hn : es.length = n) (hn2 : n + 39 ≤ 1033) (hk : es[133]? = some (.inl (K.2.1 5, 20, .inr (.inr (.inr (.inr f)))))) (ha : a + 39 ≤ 1033) (hc : c + 1503 ≤ 43526) (kk : sx_GA (ct_X Y (a + 39) (c + 1503)) (ct_A h0 s0) 2 159 [(1, .int (nI (i + 1))), (0, .ref h0)] [] (ct_W K h0 s0 (.inr (10, st_fs s0)) ((es ++ .inr (3, nt_fs (s0 + n + 1) (s0 + 21)) :: nt_es K (s0 + n + 1)).set 133 (.inl (K.2.1 5, 20, .inr (.inr (.inr (.inr (va_up f i (some (s0 + n)))))))))))  : sx_GA (ct_X Y a c) (ct_A h0 s0) 2 165 [(1, .int (nI i)), (0, .ref h0)] [] (ct_W K h0 s0 (.inr (10, st_fs s0)) es) := by
  have hlt : 133 < es.length := (List.getElem?_eq_some_iff.mp hk).1
  refine sx_aload_n (pc2 := 166) (ct_at hC ⟨by show a ≤ 1033; omega, by show c ≤ 43526; omega⟩) 1 d_St_init_165 rfl rfl rfl ?_
  refine ct_get (pc2 := 169) hC kx_i10 rfl 9 (by decide) lk_572 rfl rfl d_St_init_166 rfl ?_
  refine sx_iload_n (pc2 := 170) (ct_at hC ⟨by show a ≤ 1033; omega, by show c ≤ 43526; omega⟩) 0 d_St_init_169 rfl rfl rfl ?_
  refine ct_new (ci := 3) (fs := [.null, .int 0, .int 0, .int 0, .int 0, .int 0, .int 0, .int 0, .null, .null, .null, .null]) (a2 := a + 1) (c2 := c + 12) (pc2 := 173) hC n kx_y3 kx_i3 kx_o3 lc_46 lc_47 lk_47 rfl (fun j hj => match j, hj with | 0, _ => rfl | 1, _ => rfl | 2, _ => rfl | 3, _ => rfl | 4, _ => rfl | 5, _ => rfl | 6, _ => rfl | 7, _ => rfl | 8, _ => rfl | 9, _ => rfl | 10, _ => rfl | 11, _ => rfl | j + 12, hj => absurd hj (by omega)) ⟨rfl, rfl⟩ ⟨by show a + 1 ≤ 1033; omega, by show c + 12 ≤ 43526; omega⟩ d_St_init_170 rfl hn (es2 := es ++ [.inr (3, [.null, .int 0, .int 0, .int 0, .int 0, .int 0, .int 0, .int 0, .null, .null, .null, .null])]) rfl ?_
  refine sx_dup (pc2 := 174) (ct_at hC ⟨by show a + 1 ≤ 1033; omega, by show c + 12 ≤ 43526; omega⟩) d_St_init_173 rfl rfl ?_
  refine sx_aload_n (pc2 := 175) (ct_at hC ⟨by show a + 1 ≤ 1033; omega, by show c + 12 ≤ 43526; omega⟩) 1 d_St_init_174 rfl rfl rfl ?_
  refine ct_get (pc2 := 178) hC kx_i10 rfl 2 (by decide) lk_565 rfl rfl d_St_init_175 rfl ?_
  refine ct_call (As := [.ref (s0 + 21)]) (a2 := a + 39) (c2 := c + 1503) (es1 := es) (pc2 := 181) n hC (i_Ne l K (s0 + n) (s0 + n + 1) (s0 + 21) (hAS n (by omega)) (fun j hj => by have h9 := hAS (n + 1 + j) (by omega); rw [show s0 + (n + 1 + j) = s0 + n + 1 + j by omega] at h9; exact h9)) lc_48 rfl hy_Ne_init lc_49 lk_47 hN (Or.inl lc_50) ⟨Nat.le_of_ble_eq_true rfl, Nat.le_of_ble_eq_true rfl⟩ (Nat.le_of_ble_eq_true rfl) rfl ⟨rfl, rfl⟩ ⟨by show a + 39 ≤ 1033; omega, by show c + 1503 ≤ 43526; omega⟩ d_St_init_178 rfl hz hA0 (fun _ _ => trivial) hn (es2 := es ++ .inr (3, nt_fs (s0 + n + 1) (s0 + 21)) :: nt_es K (s0 + n + 1)) rfl ?_
  refine ct_aast (t0 := 5) (ci := 3) (r := (kx_R3, kx_T3, 12)) (k := 133) (j := n) (pc2 := 182) hC rfl rfl (in_I (n := i) rfl hi (by decide)) d_St_init_181 rfl (by rw [List.getElem?_append_left hlt]; exact hk) (by rw [List.getElem?_append_right (by omega), hn, Nat.sub_self]; rfl) (by rw [nI_clamp (by omega)]) rfl ?_
  refine sx_iinc (pc2 := 185) (ct_at hC ⟨by show a + 39 ≤ 1033; omega, by show c + 1503 ≤ 43526; omega⟩) 0 _ [(1, .int (nI (i + 1))), (0, .ref h0)] [0, 1] d_St_init_182 rfl (nI (i + 1)) (nI_1 i) (by decide) rfl rfl rfl ?_
  exact sx_goto (tgt := 159) (ct_at hC ⟨by show a + 39 ≤ 1033; omega, by show c + 1503 ≤ 43526; omega⟩) d_St_init_185 (by decide) kk
set_option maxHeartbeats 4000000 in
theorem st_it2 (hA0 : sx_A K h0) (hAS : ∀ j, j < 1033 → sx_A K (s0 + j)) (hC : ct_C Y K prog_1_method_1_code 2 "SensorTree" none rm_St_init l) (hN : ct_N (sx_s Y)) (hz : (sx_s Y).heap.size = s0) {i n a c : Nat} {es : List va_E} {f : Nat → Option Nat} (hi : i < 3) (hn : es.length = n) (hn2 : n + 39 ≤ 1033) (hk : es[134]? = some (.inl (K.2.1 5, 3, .inr (.inr (.inr (.inr f)))))) (ha : a + 39 ≤ 1033) (hc : c + 1503 ≤ 43526) (kk : sx_GA (ct_X Y (a + 39) (c + 1503)) (ct_A h0 s0) 2 190 [(1, .int (nI (i + 1))), (0, .ref h0)] [] (ct_W K h0 s0 (.inr (10, st_fs s0)) ((es ++ .inr (3, nt_fs (s0 + n + 1) (s0 + 21)) :: nt_es K (s0 + n + 1)).set 134 (.inl (K.2.1 5, 3, .inr (.inr (.inr (.inr (va_up f i (some (s0 + n)))))))))))  : sx_GA (ct_X Y a c) (ct_A h0 s0) 2 195 [(1, .int (nI i)), (0, .ref h0)] [] (ct_W K h0 s0 (.inr (10, st_fs s0)) es) := by
  have hlt : 134 < es.length := (List.getElem?_eq_some_iff.mp hk).1
  refine sx_aload_n (pc2 := 196) (ct_at hC ⟨by show a ≤ 1033; omega, by show c ≤ 43526; omega⟩) 1 d_St_init_195 rfl rfl rfl ?_
  refine ct_get (pc2 := 199) hC kx_i10 rfl 12 (by decide) lk_575 rfl rfl d_St_init_196 rfl ?_
  refine sx_iload_n (pc2 := 200) (ct_at hC ⟨by show a ≤ 1033; omega, by show c ≤ 43526; omega⟩) 0 d_St_init_199 rfl rfl rfl ?_
  refine ct_new (ci := 3) (fs := [.null, .int 0, .int 0, .int 0, .int 0, .int 0, .int 0, .int 0, .null, .null, .null, .null]) (a2 := a + 1) (c2 := c + 12) (pc2 := 203) hC n kx_y3 kx_i3 kx_o3 lc_46 lc_47 lk_47 rfl (fun j hj => match j, hj with | 0, _ => rfl | 1, _ => rfl | 2, _ => rfl | 3, _ => rfl | 4, _ => rfl | 5, _ => rfl | 6, _ => rfl | 7, _ => rfl | 8, _ => rfl | 9, _ => rfl | 10, _ => rfl | 11, _ => rfl | j + 12, hj => absurd hj (by omega)) ⟨rfl, rfl⟩ ⟨by show a + 1 ≤ 1033; omega, by show c + 12 ≤ 43526; omega⟩ d_St_init_200 rfl hn (es2 := es ++ [.inr (3, [.null, .int 0, .int 0, .int 0, .int 0, .int 0, .int 0, .int 0, .null, .null, .null, .null])]) rfl ?_
  refine sx_dup (pc2 := 204) (ct_at hC ⟨by show a + 1 ≤ 1033; omega, by show c + 12 ≤ 43526; omega⟩) d_St_init_203 rfl rfl ?_
  refine sx_aload_n (pc2 := 205) (ct_at hC ⟨by show a + 1 ≤ 1033; omega, by show c + 12 ≤ 43526; omega⟩) 1 d_St_init_204 rfl rfl rfl ?_
  refine ct_get (pc2 := 208) hC kx_i10 rfl 2 (by decide) lk_565 rfl rfl d_St_init_205 rfl ?_
  refine ct_call (As := [.ref (s0 + 21)]) (a2 := a + 39) (c2 := c + 1503) (es1 := es) (pc2 := 211) n hC (i_Ne l K (s0 + n) (s0 + n + 1) (s0 + 21) (hAS n (by omega)) (fun j hj => by have h9 := hAS (n + 1 + j) (by omega); rw [show s0 + (n + 1 + j) = s0 + n + 1 + j by omega] at h9; exact h9)) lc_48 rfl hy_Ne_init lc_49 lk_47 hN (Or.inl lc_50) ⟨Nat.le_of_ble_eq_true rfl, Nat.le_of_ble_eq_true rfl⟩ (Nat.le_of_ble_eq_true rfl) rfl ⟨rfl, rfl⟩ ⟨by show a + 39 ≤ 1033; omega, by show c + 1503 ≤ 43526; omega⟩ d_St_init_208 rfl hz hA0 (fun _ _ => trivial) hn (es2 := es ++ .inr (3, nt_fs (s0 + n + 1) (s0 + 21)) :: nt_es K (s0 + n + 1)) rfl ?_
  refine ct_aast (t0 := 5) (ci := 3) (r := (kx_R3, kx_T3, 12)) (k := 134) (j := n) (pc2 := 212) hC rfl rfl (in_I (n := i) rfl hi (by decide)) d_St_init_211 rfl (by rw [List.getElem?_append_left hlt]; exact hk) (by rw [List.getElem?_append_right (by omega), hn, Nat.sub_self]; rfl) (by rw [nI_clamp (by omega)]) rfl ?_
  refine sx_iinc (pc2 := 215) (ct_at hC ⟨by show a + 39 ≤ 1033; omega, by show c + 1503 ≤ 43526; omega⟩) 0 _ [(1, .int (nI (i + 1))), (0, .ref h0)] [0, 1] d_St_init_212 rfl (nI (i + 1)) (nI_1 i) (by decide) rfl rfl rfl ?_
  exact sx_goto (tgt := 190) (ct_at hC ⟨by show a + 39 ≤ 1033; omega, by show c + 1503 ≤ 43526; omega⟩) d_St_init_215 (by decide) kk
theorem st_lp1 (hA0 : sx_A K h0) (hAS : ∀ j, j < 1033 → sx_A K (s0 + j)) (hC : ct_C Y K prog_1_method_1_code 2 "SensorTree" none rm_St_init l) (hN : ct_N (sx_s Y)) (hz : (sx_s Y).heap.size = s0) {E0 : List va_E} (kk : ∀ es, st_R K s0 E0 133 20 136 es 20 → sx_GA (ct_X Y (136 + 39 * 20) (8957 + 1503 * 20)) (ct_A h0 s0) 2 188 [(0, .ref h0)] [] (ct_W K h0 s0 (.inr (10, st_fs s0)) es)) : ∀ (d i : Nat) (es : List va_E), i + d = 20 → st_R K s0 E0 133 20 136 es i → sx_GA (ct_X Y (136 + 39 * i) (8957 + 1503 * i)) (ct_A h0 s0) 2 159 [(1, .int (nI i)), (0, .ref h0)] [] (ct_W K h0 s0 (.inr (10, st_fs s0)) es) := by
  intro d
  induction d with
  | zero =>
    intro i es hd hR
    have hi : i = 20 := by omega
    subst hi
    refine sx_iload_n (pc2 := 160) (ct_at hC ⟨by show 136 + 39 * 20 ≤ 1033; omega, by show 8957 + 1503 * 20 ≤ 43526; omega⟩) 0 d_St_init_159 rfl rfl rfl ?_
    refine sx_bipush (v := 20) (pc2 := 162) (ct_at hC ⟨by show 136 + 39 * 20 ≤ 1033; omega, by show 8957 + 1503 * 20 ≤ 43526; omega⟩) d_St_init_160 (by decide) rfl ?_
    refine sx_icmp_ge (pc2 := 165) (tgt := 188) (ct_at hC ⟨by show 136 + 39 * 20 ≤ 1033; omega, by show 8957 + 1503 * 20 ≤ 43526; omega⟩) d_St_init_162 (by decide) rfl (fun _ => ?_) (fun q => absurd (by decide) q)
    exact sx_sub [(0, .ref h0)] [1] rfl (kk es hR)
  | succ d ih =>
    intro i es hd hR
    have hi : i < 20 := by omega
    refine sx_iload_n (pc2 := 160) (ct_at hC ⟨by show 136 + 39 * i ≤ 1033; omega, by show 8957 + 1503 * i ≤ 43526; omega⟩) 0 d_St_init_159 rfl rfl rfl ?_
    refine sx_bipush (v := 20) (pc2 := 162) (ct_at hC ⟨by show 136 + 39 * i ≤ 1033; omega, by show 8957 + 1503 * i ≤ 43526; omega⟩) d_St_init_160 (by decide) rfl ?_
    refine sx_icmp_ge (pc2 := 165) (tgt := 188) (ct_at hC ⟨by show 136 + 39 * i ≤ 1033; omega, by show 8957 + 1503 * i ≤ 43526; omega⟩) d_St_init_162 (by decide) rfl (fun q => absurd q (nI_ge (b := 20) hi (by decide))) (fun _ => ?_)
    obtain ⟨f, hf, hf2⟩ := hR.2.2.1
    refine st_it1 hA0 hAS hC hN hz hi hR.1 (by omega) hf (by omega) (by omega) ?_
    rw [show 136 + 39 * i + 39 = 136 + 39 * (i + 1) by omega, show 8957 + 1503 * i + 1503 = 8957 + 1503 * (i + 1) by omega]
    exact ih (i + 1) _ (by omega) (hR.step (by decide) hf hf2)
theorem st_lp2 (hA0 : sx_A K h0) (hAS : ∀ j, j < 1033 → sx_A K (s0 + j)) (hC : ct_C Y K prog_1_method_1_code 2 "SensorTree" none rm_St_init l) (hN : ct_N (sx_s Y)) (hz : (sx_s Y).heap.size = s0) {E0 : List va_E} (kk : ∀ es, st_R K s0 E0 134 3 916 es 3 → sx_GA (ct_X Y (916 + 39 * 3) (39017 + 1503 * 3)) (ct_A h0 s0) 2 218 [(0, .ref h0)] [] (ct_W K h0 s0 (.inr (10, st_fs s0)) es)) : ∀ (d i : Nat) (es : List va_E), i + d = 3 → st_R K s0 E0 134 3 916 es i → sx_GA (ct_X Y (916 + 39 * i) (39017 + 1503 * i)) (ct_A h0 s0) 2 190 [(1, .int (nI i)), (0, .ref h0)] [] (ct_W K h0 s0 (.inr (10, st_fs s0)) es) := by
  intro d
  induction d with
  | zero =>
    intro i es hd hR
    have hi : i = 3 := by omega
    subst hi
    refine sx_iload_n (pc2 := 191) (ct_at hC ⟨by show 916 + 39 * 3 ≤ 1033; omega, by show 39017 + 1503 * 3 ≤ 43526; omega⟩) 0 d_St_init_190 rfl rfl rfl ?_
    refine sx_iconst (v := 3) (pc2 := 192) (ct_at hC ⟨by show 916 + 39 * 3 ≤ 1033; omega, by show 39017 + 1503 * 3 ≤ 43526; omega⟩) d_St_init_191 (by decide) rfl ?_
    refine sx_icmp_ge (pc2 := 195) (tgt := 218) (ct_at hC ⟨by show 916 + 39 * 3 ≤ 1033; omega, by show 39017 + 1503 * 3 ≤ 43526; omega⟩) d_St_init_192 (by decide) rfl (fun _ => ?_) (fun q => absurd (by decide) q)
    exact sx_sub [(0, .ref h0)] [1] rfl (kk es hR)
  | succ d ih =>
    intro i es hd hR
    have hi : i < 3 := by omega
    refine sx_iload_n (pc2 := 191) (ct_at hC ⟨by show 916 + 39 * i ≤ 1033; omega, by show 39017 + 1503 * i ≤ 43526; omega⟩) 0 d_St_init_190 rfl rfl rfl ?_
    refine sx_iconst (v := 3) (pc2 := 192) (ct_at hC ⟨by show 916 + 39 * i ≤ 1033; omega, by show 39017 + 1503 * i ≤ 43526; omega⟩) d_St_init_191 (by decide) rfl ?_
    refine sx_icmp_ge (pc2 := 195) (tgt := 218) (ct_at hC ⟨by show 916 + 39 * i ≤ 1033; omega, by show 39017 + 1503 * i ≤ 43526; omega⟩) d_St_init_192 (by decide) rfl (fun q => absurd q (nI_ge (b := 3) hi (by decide))) (fun _ => ?_)
    obtain ⟨f, hf, hf2⟩ := hR.2.2.1
    refine st_it2 hA0 hAS hC hN hz hi hR.1 (by omega) hf (by omega) (by omega) ?_
    rw [show 916 + 39 * i + 39 = 916 + 39 * (i + 1) by omega, show 39017 + 1503 * i + 1503 = 39017 + 1503 * (i + 1) by omega]
    exact ih (i + 1) _ (by omega) (hR.step (by decide) hf hf2)
end TREE
