
set_option maxRecDepth 100000 in
theorem st_n0 {K : sx_K} {s0 : Nat} (r : Nat) (hr : r < 39) : (st_es K s0)[34 + r]? = (nt_al K (s0 + 34 + 1) (s0 + 21))[r]? := by
  match r, hr with
  | 0, _ => rfl
  | 1, _ => rfl
  | 2, _ => rfl
  | 3, _ => rfl
  | 4, _ => rfl
  | 5, _ => rfl
  | 6, _ => rfl
  | 7, _ => rfl
  | 8, _ => rfl
  | 9, _ => rfl
  | 10, _ => rfl
  | 11, _ => rfl
  | 12, _ => rfl
  | 13, _ => rfl
  | 14, _ => rfl
  | 15, _ => rfl
  | 16, _ => rfl
  | 17, _ => rfl
  | 18, _ => rfl
  | 19, _ => rfl
  | 20, _ => rfl
  | 21, _ => rfl
  | 22, _ => rfl
  | 23, _ => rfl
  | 24, _ => rfl
  | 25, _ => rfl
  | 26, _ => rfl
  | 27, _ => rfl
  | 28, _ => rfl
  | 29, _ => rfl
  | 30, _ => rfl
  | 31, _ => rfl
  | 32, _ => rfl
  | 33, _ => rfl
  | 34, _ => rfl
  | 35, _ => rfl
  | 36, _ => rfl
  | 37, _ => rfl
  | 38, _ => rfl
  | r + 39, hr => omega
set_option maxRecDepth 100000 in
theorem st_n1 {K : sx_K} {s0 : Nat} (r : Nat) (hr : r < 39) : (st_es K s0)[73 + r]? = (nt_al K (s0 + 73 + 1) (s0 + 21))[r]? := by
  match r, hr with
  | 0, _ => rfl
  | 1, _ => rfl
  | 2, _ => rfl
  | 3, _ => rfl
  | 4, _ => rfl
  | 5, _ => rfl
  | 6, _ => rfl
  | 7, _ => rfl
  | 8, _ => rfl
  | 9, _ => rfl
  | 10, _ => rfl
  | 11, _ => rfl
  | 12, _ => rfl
  | 13, _ => rfl
  | 14, _ => rfl
  | 15, _ => rfl
  | 16, _ => rfl
  | 17, _ => rfl
  | 18, _ => rfl
  | 19, _ => rfl
  | 20, _ => rfl
  | 21, _ => rfl
  | 22, _ => rfl
  | 23, _ => rfl
  | 24, _ => rfl
  | 25, _ => rfl
  | 26, _ => rfl
  | 27, _ => rfl
  | 28, _ => rfl
  | 29, _ => rfl
  | 30, _ => rfl
  | 31, _ => rfl
  | 32, _ => rfl
  | 33, _ => rfl
  | 34, _ => rfl
  | 35, _ => rfl
  | 36, _ => rfl
  | 37, _ => rfl
  | 38, _ => rfl
  | r + 39, hr => omega
set_option maxRecDepth 100000 in
set_option maxHeartbeats 4000000 in
theorem st_k1 {K : sx_K} {h0 s0 : Nat} {H : Heap} (old : ∀ (r : Nat) (x : va_E), r < 136 → r ≠ 133 → r ≠ 134 → (st_es K s0)[r]? = some x → va_at K.1 kx_cl (s0 + r, x) H) : ∀ i ∈ kc_1, va_at K.1 kx_cl (kc_ad K h0 s0 i.1 i.2.1 i.2.2, sx_en (kc_K K h0 s0) i.1 i.2.1 i.2.2 (st_σ i.1 i.2.1 i.2.2) (fun _ => 0)) H := by
  intro i hi
  unfold kc_1 at hi
  simp only [List.mem_cons, List.mem_nil_iff, or_false] at hi
  rcases hi with rfl | rfl | rfl | rfl | rfl | rfl | rfl | rfl | rfl | rfl | rfl | rfl | rfl | rfl | rfl | rfl | rfl | rfl | rfl | rfl | rfl | rfl | rfl | rfl | rfl | rfl | rfl | rfl | rfl | rfl | rfl | rfl | rfl | rfl
  · exact old 0 _ (by decide) (by decide) (by decide) rfl
  · exact old 1 _ (by decide) (by decide) (by decide) rfl
  · exact old 2 _ (by decide) (by decide) (by decide) rfl
  · exact old 3 _ (by decide) (by decide) (by decide) rfl
  · exact old 4 _ (by decide) (by decide) (by decide) rfl
  · exact old 5 _ (by decide) (by decide) (by decide) rfl
  · exact old 6 _ (by decide) (by decide) (by decide) rfl
  · exact old 7 _ (by decide) (by decide) (by decide) rfl
  · exact old 8 _ (by decide) (by decide) (by decide) rfl
  · exact old 9 _ (by decide) (by decide) (by decide) rfl
  · exact old 10 _ (by decide) (by decide) (by decide) rfl
  · have h1 : H[s0 + 11]? = some (vp_cell (K.2.1 6) (7, .inr (.inr (.inr (.inr (fun j => some (s0 + 12 + j))))))) := old 11 _ (by decide) (by decide) (by decide) rfl
    show H[s0 + 11]? = some (vp_cell (K.2.1 6) (7, .inr (.inr (.inr (.inr (fun j => some (s0 + (12 + j))))))))
    rw [h1]
    exact congrArg some (gx_extq (fun j hj => by rw [Nat.add_assoc]))
  · exact old 12 _ (by decide) (by decide) (by decide) rfl
  · exact old 13 _ (by decide) (by decide) (by decide) rfl
  · exact old 14 _ (by decide) (by decide) (by decide) rfl
  · exact old 15 _ (by decide) (by decide) (by decide) rfl
  · exact old 16 _ (by decide) (by decide) (by decide) rfl
  · exact old 17 _ (by decide) (by decide) (by decide) rfl
  · exact old 18 _ (by decide) (by decide) (by decide) rfl
  · exact old 19 _ (by decide) (by decide) (by decide) rfl
  · exact old 20 _ (by decide) (by decide) (by decide) rfl
  · exact old 21 _ (by decide) (by decide) (by decide) rfl
  · exact old 22 _ (by decide) (by decide) (by decide) rfl
  · exact old 23 _ (by decide) (by decide) (by decide) rfl
  · exact old 24 _ (by decide) (by decide) (by decide) rfl
  · have h1 : H[s0 + 25]? = some (vp_cell (K.2.1 6) (7, .inr (.inr (.inr (.inr (fun j => some (s0 + 26 + j))))))) := old 25 _ (by decide) (by decide) (by decide) rfl
    show H[s0 + 25]? = some (vp_cell (K.2.1 6) (7, .inr (.inr (.inr (.inr (fun j => some (s0 + (26 + j))))))))
    rw [h1]
    exact congrArg some (gx_extq (fun j hj => by rw [Nat.add_assoc]))
  · exact old 26 _ (by decide) (by decide) (by decide) rfl
  · exact old 27 _ (by decide) (by decide) (by decide) rfl
  · exact old 28 _ (by decide) (by decide) (by decide) rfl
  · exact old 29 _ (by decide) (by decide) (by decide) rfl
  · exact old 30 _ (by decide) (by decide) (by decide) rfl
  · exact old 31 _ (by decide) (by decide) (by decide) rfl
  · exact old 32 _ (by decide) (by decide) (by decide) rfl
  · exact old 33 _ (by decide) (by decide) (by decide) rfl
set_option maxRecDepth 100000 in
set_option maxHeartbeats 4000000 in
theorem st_k2 {K : sx_K} {h0 s0 : Nat} {H : Heap} (old : ∀ (r : Nat) (x : va_E), r < 136 → r ≠ 133 → r ≠ 134 → (st_es K s0)[r]? = some x → va_at K.1 kx_cl (s0 + r, x) H) (h133 : va_at K.1 kx_cl (s0 + 133, sx_en (kc_K K h0 s0) 37 0 0 (fun _ => 0) (fun _ => 0)) H) (h134 : va_at K.1 kx_cl (s0 + 134, sx_en (kc_K K h0 s0) 38 0 0 (fun _ => 0) (fun _ => 0)) H) : ∀ i ∈ kc_2, va_at K.1 kx_cl (kc_ad K h0 s0 i.1 i.2.1 i.2.2, sx_en (kc_K K h0 s0) i.1 i.2.1 i.2.2 (st_σ i.1 i.2.1 i.2.2) (fun _ => 0)) H := by
  intro i hi
  unfold kc_2 at hi
  simp only [List.mem_cons, List.mem_nil_iff, or_false] at hi
  rcases hi with rfl | rfl | rfl | rfl | rfl | rfl | rfl | rfl | rfl | rfl | rfl | rfl | rfl | rfl | rfl | rfl | rfl | rfl | rfl | rfl | rfl | rfl | rfl | rfl
  · exact old 112 _ (by decide) (by decide) (by decide) rfl
  · exact old 113 _ (by decide) (by decide) (by decide) rfl
  · exact old 114 _ (by decide) (by decide) (by decide) rfl
  · exact old 115 _ (by decide) (by decide) (by decide) rfl
  · exact old 116 _ (by decide) (by decide) (by decide) rfl
  · exact old 117 _ (by decide) (by decide) (by decide) rfl
  · exact old 118 _ (by decide) (by decide) (by decide) rfl
  · exact old 119 _ (by decide) (by decide) (by decide) rfl
  · exact old 120 _ (by decide) (by decide) (by decide) rfl
  · exact old 121 _ (by decide) (by decide) (by decide) rfl
  · exact old 122 _ (by decide) (by decide) (by decide) rfl
  · exact old 123 _ (by decide) (by decide) (by decide) rfl
  · exact old 124 _ (by decide) (by decide) (by decide) rfl
  · exact old 125 _ (by decide) (by decide) (by decide) rfl
  · exact old 126 _ (by decide) (by decide) (by decide) rfl
  · exact old 127 _ (by decide) (by decide) (by decide) rfl
  · exact old 128 _ (by decide) (by decide) (by decide) rfl
  · exact old 129 _ (by decide) (by decide) (by decide) rfl
  · exact old 130 _ (by decide) (by decide) (by decide) rfl
  · exact old 131 _ (by decide) (by decide) (by decide) rfl
  · exact old 132 _ (by decide) (by decide) (by decide) rfl
  · exact h133
  · exact h134
  · exact old 135 _ (by decide) (by decide) (by decide) rfl
section TREEB
variable {Y : sx_T} {K : sx_K} {l : Launch} {h0 s0 : Nat} {H : Heap}
/-- all cells of the tree stand -/
theorem st_all {es1 es2 : List va_E} (R1 : st_R K s0 (st_es K s0) 133 20 136 es1 20) (R2 : st_R K s0 es1 134 3 916 es2 3) (hW : ct_W K h0 s0 (.inr (10, st_fs s0)) es2 H) : sx_H (kc_K K h0 s0) st_σ (fun _ _ => 0) H := by
  have hS := hW.1.2
  have old : ∀ (r : Nat) (x : va_E), r < 136 → r ≠ 133 → r ≠ 134 → (st_es K s0)[r]? = some x → va_at K.1 kx_cl (s0 + r, x) H := fun r x h1 h2 h3 hx => hS r x (by rw [R2.2.1 r (by omega) h3, R1.2.1 r h1 h2]; exact hx)
  have nets : ∀ (n r : Nat) (x : va_E), n < 25 → (nt_al K (s0 + kc_b n + 1) (s0 + 21))[r]? = some x → va_at K.1 kx_cl (s0 + kc_b n + r, x) H := by
    intro n r x hn hx
    have hr : r < 39 := (List.getElem?_eq_some_iff.mp hx).1
    by_cases h0n : n = 0
    · subst h0n
      have hx2 : (nt_al K (s0 + 34 + 1) (s0 + 21))[r]? = some x := hx
      show va_at K.1 kx_cl (s0 + 34 + r, x) H
      rw [Nat.add_assoc]
      refine old (34 + r) x (by omega) (by omega) (by omega) ?_
      rw [← hx2]
      exact st_n0 r hr
    · by_cases h1n : n = 1
      · subst h1n
        have hx2 : (nt_al K (s0 + 73 + 1) (s0 + 21))[r]? = some x := hx
        show va_at K.1 kx_cl (s0 + 73 + r, x) H
        rw [Nat.add_assoc]
        refine old (73 + r) x (by omega) (by omega) (by omega) ?_
        rw [← hx2]
        exact st_n1 r hr
      · have hb : kc_b n = 136 + 39 * (n - 2) := by unfold kc_b; rw [if_neg h0n, if_neg h1n]
        rw [hb] at hx ⊢
        rw [Nat.add_assoc]
        by_cases h22 : n < 22
        · refine hS _ x ?_
          rw [R2.2.1 _ (by omega) (by omega), R1.2.2.2 (n - 2) r (by omega) hr]
          exact hx
        · refine hS _ x ?_
          have h9 := R2.2.2.2 (n - 22) r (by omega) hr
          rw [show 916 + 39 * (n - 22) = 136 + 39 * (n - 2) by omega] at h9
          rw [h9]
          exact hx
  obtain ⟨f1, hf1, hg1⟩ := R1.2.2.1
  obtain ⟨f2, hf2, hg2⟩ := R2.2.2.1
  have key : ∀ i ∈ kc_I, va_at K.1 kx_cl (kc_ad K h0 s0 i.1 i.2.1 i.2.2, sx_en (kc_K K h0 s0) i.1 i.2.1 i.2.2 (st_σ i.1 i.2.1 i.2.2) (fun _ => 0)) H := by
    intro i hi
    unfold kc_I at hi
    rcases List.mem_cons.mp hi with hi | hi
    · subst hi
      exact hW.2.2
    rcases List.mem_append.mp hi with hi | hi
    · exact st_k1 old i hi
    rcases List.mem_append.mp hi with hi | hi
    · exact kc_nt (by decide) (fun r x hx => nets 0 r x (by decide) hx) i hi
    rcases List.mem_append.mp hi with hi | hi
    · exact kc_nt (by decide) (fun r x hx => nets 1 r x (by decide) hx) i hi
    rcases List.mem_append.mp hi with hi | hi
    · refine st_k2 old ?_ ?_ i hi
      · have h8 : va_at K.1 kx_cl (s0 + 133, .inl (K.2.1 5, 20, .inr (.inr (.inr (.inr f1))))) H := hS 133 _ (by rw [R2.2.1 133 (by decide) (by decide)]; exact hf1)
        have h9 : H[s0 + 133]? = some (vp_cell (K.2.1 5) (20, .inr (.inr (.inr (.inr f1))))) := h8
        show H[s0 + 133]? = some (vp_cell (K.2.1 5) (20, .inr (.inr (.inr (.inr (fun j => some (s0 + kc_b (2 + j))))))))
        rw [h9]
        refine congrArg some (gx_extq (fun j hj => ?_))
        rw [hg1 j hj]
        unfold kc_b
        rw [if_neg (by omega), if_neg (by omega), show 2 + j - 2 = j by omega]
      · have h9 : H[s0 + 134]? = some (vp_cell (K.2.1 5) (3, .inr (.inr (.inr (.inr f2))))) := hS 134 _ hf2
        show H[s0 + 134]? = some (vp_cell (K.2.1 5) (3, .inr (.inr (.inr (.inr (fun j => some (s0 + kc_b (22 + j))))))))
        rw [h9]
        refine congrArg some (gx_extq (fun j hj => ?_))
        rw [hg2 j hj]
        unfold kc_b
        rw [if_neg (by omega), if_neg (by omega), show 136 + 39 * (22 + j - 2) = 916 + 39 * j by omega]
    · obtain ⟨n, hn, hi⟩ := List.mem_flatMap.mp hi
      have hn2 := List.mem_range.mp hn
      exact kc_nt (by omega) (fun r x hx => nets (2 + n) r x (by omega) hx) i hi
  intro a q hq
  unfold sx_ws at hq
  rw [List.getElem?_map] at hq
  cases hi : (kc_K K h0 s0).2.2.2[a]? with
  | none => rw [hi] at hq; cases hq
  | some i =>
    rw [hi] at hq
    cases hq
    exact key i (List.mem_of_getElem? hi)
/-- the tree's constructor -/
theorem i_St (hA0 : sx_A K h0) (hAS : ∀ j, j < 1033 → sx_A K (s0 + j)) (Q : sx_M → Prop) (hwp : wp_En_beginAll 0 st_σ Q) : Met l y_St_init (sx_wd y_St_init prog_1_method_1_code 2 none) rm_St_init (ct_Pc K [] h0 s0 (.inr (10, [.null, .null, .null, .null, .null, .null, .null, .null, .null, .null, .int 0, .int 0, .null, .null])) (fun _ => True)) (va_Qv (fun u : sx_M × sx_L => Q u.1) (fun u t => t.heap.size = s0 + 1033 ∧ sx_H (kc_K K h0 s0) u.1 u.2 t.heap) (ct_A h0 s0)) 1033 43526 (ct_A h0 s0) := by
  refine Met.ofW (cc := prog_1_method_1_code) (maxL := 2) (ret := none) (by decide) rfl ?_
  intro p ev s m args below meth c s₁ B hml hv
  obtain ⟨rfl, hSs, hN, hH, -⟩ := hv
  have hts := atoms_spec (ws := sx_wd y_St_init prog_1_method_1_code 2 none) B.pre
  have hl := lv_entry (.ref h0 :: []) (n := 2) (Nat.le_of_ble_eq_true rfl)
  generalize hY : ((p, l, ev, rm_St_init, s, m, (Value.ref h0 :: []).toArray, below, meth, c, MQ below (va_Qv (fun u : sx_M × sx_L => Q u.1) (fun u t => t.heap.size = s0 + 1033 ∧ sx_H (kc_K K h0 s0) u.1 u.2 t.heap) (ct_A h0 s0)) (Value.ref h0 :: []).toArray s 1033 43526 (ct_A h0 s0), 0, 0) : sx_T) = Y
  have hC : ct_C Y K prog_1_method_1_code 2 "SensorTree" none rm_St_init l := by
    subst hY
    exact ⟨B.exec, B.bytes, B.returns, hml, findClass_of_methodNamed B.named, fun w hw => hts w (List.mem_cons_of_mem _ hw), ⟨B.notSynchronized, Nat.zero_le _, Nat.zero_le _⟩, rfl, rfl, hSs⟩
  have hin : (sx_h Y).name = "<init>" := by subst hY; exact (name_of_methodNamed B.named B.method).1
  have hN2 : ct_N (sx_s Y) := by subst hY; exact hN
  have hz : (sx_s Y).heap.size = s0 := by subst hY; exact hH.1.1
  have hq : sx_q Y = MQ (sx_b Y) (va_Qv (fun u : sx_M × sx_L => Q u.1) (fun u t => t.heap.size = s0 + 1033 ∧ sx_H (kc_K K h0 s0) u.1 u.2 t.heap) (ct_A h0 s0)) (sx_a Y) (sx_s Y) 1033 43526 (ct_A h0 s0) := by subst hY; rfl
  have hlt : h0 < s0 := hH.2.1
  have goal : sx_GA (ct_X Y 0 0) (ct_A h0 s0) 2 0 [(0, .ref h0)] [] (ct_W K h0 s0 (.inr (10, [.null, .null, .null, .null, .null, .null, .null, .null, .null, .null, .int 0, .int 0, .null, .null])) []) := by
    refine st_head hA0 hAS hC hin hN2 hz ?_
    refine sx_iconst (v := 0) (pc2 := 158) (ct_at (a := 136) (c := 8957) hC ⟨Nat.le_of_ble_eq_true rfl, Nat.le_of_ble_eq_true rfl⟩) d_St_init_157 (by decide) rfl ?_
    refine sx_istore_n (pc2 := 159) (ct_at (a := 136) (c := 8957) hC ⟨Nat.le_of_ble_eq_true rfl, Nat.le_of_ble_eq_true rfl⟩) _ [(1, .int (nI 0)), (0, .ref h0)] [0, 1] d_St_init_158 rfl (by decide) rfl rfl rfl ?_
    refine st_lp1 (E0 := st_es K s0) hA0 hAS hC hN2 hz (fun es1 R1 => ?_) 20 0 (st_es K s0) rfl ⟨rfl, fun r _ _ => rfl, ⟨_, rfl, fun j hj => absurd hj (Nat.not_lt_zero _)⟩, fun j r hj => absurd hj (Nat.not_lt_zero _)⟩
    refine sx_iconst (v := 0) (pc2 := 189) (ct_at (a := 916) (c := 39017) hC ⟨Nat.le_of_ble_eq_true rfl, Nat.le_of_ble_eq_true rfl⟩) d_St_init_188 (by decide) rfl ?_
    refine sx_istore_n (pc2 := 190) (ct_at (a := 916) (c := 39017) hC ⟨Nat.le_of_ble_eq_true rfl, Nat.le_of_ble_eq_true rfl⟩) _ [(1, .int (nI 0)), (0, .ref h0)] [0, 1] d_St_init_189 rfl (by decide) rfl rfl rfl ?_
    have h134 : es1[134]? = some (.inl (K.2.1 5, 3, .inr (.inr (.inr (.inr (fun _ => none)))))) := R1.2.1 134 (by decide) (by decide)
    refine st_lp2 (E0 := es1) hA0 hAS hC hN2 hz (fun es2 R2 => ?_) 3 0 es1 rfl ⟨R1.1, fun r _ _ => rfl, ⟨_, h134, fun j hj => absurd hj (Nat.not_lt_zero _)⟩, fun j r hj => absurd hj (Nat.not_lt_zero _)⟩
    refine sx_aload_n (pc2 := 219) (ct_at (a := 1033) (c := 43526) hC ⟨Nat.le_of_ble_eq_true rfl, Nat.le_of_ble_eq_true rfl⟩) 0 d_St_init_218 rfl rfl rfl ?_
    refine ct_get (pc2 := 222) hC kx_i10 rfl 5 (by decide) lk_568 rfl rfl d_St_init_219 rfl ?_
    have hrm : sx_rm Y = rm_St_init := hC.2.2.2.2.2.2.2.1
    obtain ⟨rfl, hX2⟩ : sx_l Y = l ∧ True := ⟨hC.2.2.2.2.2.2.2.2.1, trivial⟩
    have hts2 := hC.2.2.2.2.2.1
    have hSs2 : sx_S K (sx_s Y) := hC.2.2.2.2.2.2.2.2.2
    intro H locs ls hP hS hl2
    have hx := st_all R1 R2 hP
    have hsz : H.size = s0 + 1033 := by rw [hP.1.1, R2.1]
    have hM := c_En_beginAll (l := sx_l Y) (kc_C K h0 s0) 0 st_σ (fun _ _ => 0) Q (by decide) hwp
    have hAA : ∀ q, sx_A (kc_K K h0 s0) q → ct_A h0 s0 q := fun q h => by
      rcases kc_A h with h | h
      · exact Or.inl h
      · exact Or.inr h.1
    have hAB : ∀ q, sx_A (kc_K K h0 s0) q → sx_A K q := fun q h => by
      rcases kc_A h with h | h
      · rw [h]; exact hA0
      · have := hAS (q - s0) (by omega)
        rw [show s0 + (q - s0) = q by omega] at this
        exact this
    have hrec : ∃ cell : Cell, H[s0 + 112]? = some cell ∧ cell.vm.isStatics = false ∧ (sx_s Y).vm.findClass "SensorTree$Engine" = some cell.cls := by
      obtain ⟨q0, hq0, hq2⟩ := sx_at (kc_C K h0 s0 31 0 0 (by decide) (by decide)) st_σ (fun _ _ => 0)
      exact va_recv (q := (kx_R0, kx_T0, 4)) (ci := 0) hSs2.2.1 hx rfl hq2
    refine va_callv (va_runV (As := []) (rest := []) ⟨hC.1, hC.2.1, hC.2.2.2.1, hC.2.2.2.2.1, hts2⟩ hM ⟨callB_of 0 hts2 (sx_wg lk_256) rfl rfl rfl (hts2 _ lk_27) (hts2 _ lk_257) hy_En_beginAll (by rw [hrm]; exact ⟨Nat.le_of_ble_eq_true rfl, Nat.le_of_ble_eq_true rfl⟩), hts2 _ lk_258, hts2 _ lk_259⟩ ⟨sx_blind, hrec, fun U hU hW => ⟨rfl, (ct_SU hSs2 hz hA0 hS hU hW).sub rfl rfl (fun k n p h1 h2 => ?_) (kc_ok hlt) hAB, by rw [hU]; exact hx⟩⟩ rfl rfl hl2.1 rfl (lv_room (Nat.le_of_ble_eq_true rfl)) d_St_init_222 (by rw [hrm]; exact ⟨Nat.le_of_ble_eq_true rfl, Nat.le_of_ble_eq_true rfl⟩)) hS (fun q _ h => hAA q h) hAA (fun u t H1 locs1 ht hvm hw hB hz1 hk1 hS1 => ?_)
    · have hk : k = 40 ∨ k = 41 ∨ k = 42 := by omega
      rcases hk with rfl | rfl | rfl <;> rfl
    have hB2 : sx_H (kc_K K h0 s0) u.1 u.2 H1 := by have hB3 : sx_H (kc_K K h0 s0) u.1 u.2 t.heap := hB; rw [ht] at hB3; exact hB3
    refine ct_size (fun hz2 => ?_)
    replace hz2 : H1.size ≤ (sx_s Y).heap.size + 1033 := hz2
    rw [hz] at hz2
    have hsz1 : H1.size = s0 + 1033 := by omega
    show W _ _ _ _ _ _ _ _ _ _ _ _ _ _ (sx_q Y) _
    rw [hq]
    exact W.vret hC.1 hC.2.1 hC.2.2.1 (fun t2 ht2 hW2 => ⟨⟨u, rfl, hw, by rw [ht2]; exact hsz1, by rw [ht2]; exact hB2⟩, hS1.F ht2⟩) hS1.2.2 d_St_init_225 hC.2.2.2.2.2.2.1.1
  rw [lg_entry_eq]
  subst hY
  exact goal s.heap [] _ hH va_S.rf hl
end TREEB
