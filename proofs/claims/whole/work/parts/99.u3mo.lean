/-- the reference's constructor -/
theorem i_Mo {l : Launch} {K : sx_K} {h0 s0 : Nat} (hA0 : sx_A K h0) (hAS : ∀ j, j < 24 → sx_A K (s0 + j)) (Q : sx_M → sx_L → Prop) (hwp : wp_Mo_plain 0 md_σ md_τ (fun ρ θ => wp_Mo_plain 1 ρ θ (fun ρ θ => wp_Mo_begins ρ θ (fun ρ θ => wp_Mo_keepsRow ρ θ Q)))) : Met l y_Mo_init (sx_wd y_Mo_init prog_13_method_2_code 1 none) rm_Mo_init (ct_Pc K [] h0 s0 (.inr (11, [.int 0, .null, .int 0, .null, .int 0, .null, .null, .null, .null, .null, .int 0, .int 0, .int 0, .int 0, .int 0, .int 0, .int 0, .int 0, .int 0, .null, .null, .null, .null, .null, .null, .null, .null, .null, .null, .null, .null, .int 0, .null, .int 0, .int 0, .null, .int 0, .int 0, .null, .null, .null])) (fun _ => True)) (va_Qv (fun u : sx_M × sx_L => Q u.1 u.2) (fun u t => t.heap.size = s0 + 24 ∧ sx_H (kr_K K h0 s0) u.1 u.2 t.heap) (ct_A h0 s0)) 24 22363 (ct_A h0 s0) := by
  refine Met.ofW (cc := prog_13_method_2_code) (maxL := 1) (ret := none) (by decide) rfl ?_
  intro p ev s m args below meth c s₁ B hml hv
  obtain ⟨rfl, hSs, hN, hH, -⟩ := hv
  have hts := atoms_spec (ws := sx_wd y_Mo_init prog_13_method_2_code 1 none) B.pre
  have hl := lv_entry (.ref h0 :: []) (n := 1) (Nat.le_of_ble_eq_true rfl)
  generalize hY : ((p, l, ev, rm_Mo_init, s, m, (Value.ref h0 :: []).toArray, below, meth, c, MQ below (va_Qv (fun u : sx_M × sx_L => Q u.1 u.2) (fun u t => t.heap.size = s0 + 24 ∧ sx_H (kr_K K h0 s0) u.1 u.2 t.heap) (ct_A h0 s0)) (Value.ref h0 :: []).toArray s 24 22363 (ct_A h0 s0), 0, 0) : sx_T) = Y
  have hC : ct_C Y K prog_13_method_2_code 1 "SensorTreeModel" none rm_Mo_init l := by
    subst hY
    exact ⟨B.exec, B.bytes, B.returns, hml, findClass_of_methodNamed B.named, fun w hw => hts w (List.mem_cons_of_mem _ hw), ⟨B.notSynchronized, Nat.zero_le _, Nat.zero_le _⟩, rfl, rfl, hSs⟩
  have hin : (sx_h Y).name = "<init>" := by subst hY; exact (name_of_methodNamed B.named B.method).1
  have hz : (sx_s Y).heap.size = s0 := by subst hY; exact hH.1.1
  have hq : sx_q Y = MQ (sx_b Y) (va_Qv (fun u : sx_M × sx_L => Q u.1 u.2) (fun u t => t.heap.size = s0 + 24 ∧ sx_H (kr_K K h0 s0) u.1 u.2 t.heap) (ct_A h0 s0)) (sx_a Y) (sx_s Y) 24 22363 (ct_A h0 s0) := by subst hY; rfl
  have hlt : h0 < s0 := hH.2.1
  have hAA : ∀ q, sx_A (kr_K K h0 s0) q → ct_A h0 s0 q := fun q h => by
    rcases kr_A h with h | h
    · exact Or.inl h
    · exact Or.inr h.1
  have hAB : ∀ q, sx_A (kr_K K h0 s0) q → sx_A K q := fun q h => by
    rcases kr_A h with h | h
    · rw [h]; exact hA0
    · have := hAS (q - s0) (by omega)
      rw [show s0 + (q - s0) = q by omega] at this
      exact this
  have goal : sx_GA (ct_X Y 0 0) (ct_A h0 s0) 1 0 [(0, .ref h0)] [] (ct_W K h0 s0 (.inr (11, [.int 0, .null, .int 0, .null, .int 0, .null, .null, .null, .null, .null, .int 0, .int 0, .int 0, .int 0, .int 0, .int 0, .int 0, .int 0, .int 0, .null, .null, .null, .null, .null, .null, .null, .null, .null, .null, .null, .null, .int 0, .null, .int 0, .int 0, .null, .int 0, .int 0, .null, .null, .null])) []) := by
    refine md_head hC hin ?_
    refine ct_imp (fun H h => md_all h) ?_
    refine ct_sw (K2 := kr_K K h0 s0) hz ⟨(50, 0, 0), kr_50 (kr_F K h0 s0), rfl⟩ hAA ?_
    have hX0 := ct_at (a := 24) (c := 22363) hC ⟨Nat.le_of_ble_eq_true rfl, Nat.le_of_ble_eq_true rfl⟩
    have hX : sx_C (ct_X Y 24 22363) (kr_K K h0 s0) prog_13_method_2_code 1 "SensorTreeModel" none rm_Mo_init l := ⟨hX0.1, hX0.2.1, hX0.2.2.1, hX0.2.2.2.1, hX0.2.2.2.2.1, hX0.2.2.2.2.2.1, hX0.2.2.2.2.2.2.1, hX0.2.2.2.2.2.2.2.1, hX0.2.2.2.2.2.2.2.2.1, hX0.2.2.2.2.2.2.2.2.2.sub rfl rfl (fun k n p h1 h2 => by
      have hk : k = 40 ∨ k = 41 ∨ k = 42 := by omega
      rcases hk with rfl | rfl | rfl <;> rfl) (kr_ok hlt) hAB⟩
    refine md_tail hX (kr_F K h0 s0) hwp (fun σ τ hQ => ?_)
    intro H locs ls hP hS hl2
    refine ct_size (fun hz2 => ?_)
    replace hz2 : H.size ≤ (sx_s Y).heap.size + 24 := hz2
    rw [hz] at hz2
    have hlow : s0 + 23 < H.size := (hP 24 _ rfl).lt
    have hsz : H.size = s0 + 24 := by omega
    show W _ _ _ _ _ _ _ _ _ _ _ _ _ _ (sx_q Y) _
    rw [hq]
    exact W.vret hC.1 hC.2.1 hC.2.2.1 (fun t2 ht2 hW2 => ⟨⟨(σ, τ), rfl, hQ, by rw [ht2]; exact hsz, by rw [ht2]; exact hP⟩, by rw [ht2]; exact hS.1, fun q h1 h2 => by rw [ht2]; exact hS.2.1 q h1 (fun h3 => h2 (hAA q h3))⟩) (fun q hq2 => hAA _ (hS.2.2 q hq2)) d_Mo_init_522 hC.2.2.2.2.2.2.1.1
  rw [lg_entry_eq]
  subst hY
  exact goal s.heap [] _ hH va_S.rf hl
