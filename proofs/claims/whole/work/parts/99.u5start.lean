theorem d_lw_0 : decode code 0 = .ok (.new 7, 3) := by decide +kernel
theorem d_lw_3 : decode code 3 = .ok (.dup, 1) := by decide +kernel
theorem d_lw_4 : decode code 4 = .ok (.invokespecial 9, 3) := by decide +kernel
theorem d_lw_7 : decode code 7 = .ok (.astore_n 1, 1) := by decide +kernel
theorem d_lw_8 : decode code 8 = .ok (.new 10, 3) := by decide +kernel
theorem d_lw_11 : decode code 11 = .ok (.dup, 1) := by decide +kernel
theorem d_lw_12 : decode code 12 = .ok (.invokespecial 12, 3) := by decide +kernel
theorem d_lw_15 : decode code 15 = .ok (.astore_n 2, 1) := by decide +kernel
theorem lc_4000 : (Jvm.Cond.instanceMethod ({ cls := "SensorTree", name := "<init>", desc := "()V" } : Jvm.MethodName)) ∈ lw_g := lw_at 22 (by decide +kernel) (by decide +kernel)
set_option maxRecDepth 30000 in
theorem lc_4001 : (Jvm.Cond.code ({ cls := "SensorTree", name := "<init>", desc := "()V" } : Jvm.MethodName) prog_1_method_1_code (2 : Nat) (Option.none : Option Jvm.ClassFile.FieldType)) ∈ lw_g := lw_at 23 rfl (by decide +kernel)
theorem lc_4002 : (Jvm.Cond.instanceMethod ({ cls := "SensorTreeModel", name := "<init>", desc := "()V" } : Jvm.MethodName)) ∈ lw_g := lw_at 1070 (by decide +kernel) (by decide +kernel)
set_option maxRecDepth 30000 in
theorem lc_4003 : (Jvm.Cond.code ({ cls := "SensorTreeModel", name := "<init>", desc := "()V" } : Jvm.MethodName) prog_13_method_2_code (1 : Nat) (Option.none : Option Jvm.ClassFile.FieldType)) ∈ lw_g := lw_at 1071 rfl (by decide +kernel)
theorem lc_4004 : (Jvm.Cond.classLink "SensorTreeLaw" (7 : Nat) "SensorTree") ∈ lw_g := lw_at 19 (by decide +kernel) (by decide +kernel)
theorem lc_4005 : (Jvm.Cond.classLink "SensorTreeLaw" (10 : Nat) "SensorTreeModel") ∈ lw_g := lw_at 1067 (by decide +kernel) (by decide +kernel)
theorem lc_4006 : (Jvm.Cond.instantiable "SensorTree" (14 : Nat)) ∈ lw_g := lw_at 20 (by decide +kernel) (by decide +kernel)
theorem lc_4007 : (Jvm.Cond.instantiable "SensorTreeModel" (41 : Nat)) ∈ lw_g := lw_at 1068 (by decide +kernel) (by decide +kernel)
theorem lc_4008 : (Jvm.Cond.methodLink "SensorTreeLaw" (9 : Nat) ({ cls := "SensorTree", name := "<init>", desc := "()V" } : Jvm.MethodName)) ∈ lw_g := lw_at 21 (by decide +kernel) (by decide +kernel)
theorem lc_4009 : (Jvm.Cond.methodLink "SensorTreeLaw" (12 : Nat) ({ cls := "SensorTreeModel", name := "<init>", desc := "()V" } : Jvm.MethodName)) ∈ lw_g := lw_at 1069 (by decide +kernel) (by decide +kernel)
/-- a constructor that ends otherwise -/
theorem ct_callU {S : Type} {post : S → Prop} {Bh : S → Heap → Prop} {Y : sx_T} {K : sx_K} {A : Nat → Prop} {cc : ByteArray} {nL : Nat} {own : String} {ret : Option FieldType} {rm : Room} {l : Launch} {pc pc2 a c a2 c2 mc ms : Nat} {lv : List (Nat × Value)} {st : List Value} {P : Heap → Prop} {y : MethodName} {cc2 : ByteArray} {maxL2 index q : Nat} {rm2 : Room} {st0 : List Value} {d : va_E} (hC : ct_C Y K cc nL own ret rm l) (hM : Met l y (sx_wd y cc2 maxL2 none) rm2 (ct_Pc K [] q (q + 1) d (fun _ => True)) (va_Qv post (fun u t => Bh u t.heap) (ct_A q (q + 1))) mc ms (ct_A q (q + 1))) (hmc : rm2.cells = mc ∧ rm2.slots = ms) (hinst : Cond.instanceMethod y ∈ lw_g) (hyn : y.name = "<init>") (hy : y.cls ≠ "java/lang/invoke/MethodHandle" ∧ y.cls ≠ "java/lang/invoke/VarHandle" ∧ (parseMethodDescriptor y.desc).map (fun d => d.parameters.length) = some 0) (hcode : Cond.code y cc2 maxL2 none ∈ lw_g) (hini : Cond.initialized y.cls ∈ lw_g) (hN : ct_N (sx_s Y)) (hlink : Cond.methodLink own index y ∈ lw_g) (hR : rm2.frames + 1 ≤ rm.frames ∧ 8 + (maxL2 + 11) + rm2.locals ≤ rm.locals) (hst : (st.map fun v => v.category).sum ≤ 8) (hs : st0 = .ref q :: st) (ha : a + mc = a2 ∧ c + ms = c2) (hr : a2 ≤ rm.cells ∧ c2 ≤ rm.slots) (hd : decode cc pc = .ok (.invokespecial index, 3)) (hp : pc + 3 = pc2) (hKA : ∀ z, z < (sx_s Y).heap.size → A z → sx_A K z) (hAA : ∀ z, ct_A q (q + 1) z → A z) (hpre : ∀ H, P H → ct_W K q (q + 1) d [] H) (kk : ∀ u, post u → sx_GA (ct_X Y a2 c2) A nL pc2 lv st (fun H1 => ∃ H, P H ∧ (∀ z : Nat, z < H.size → ¬ ct_A q (q + 1) z → H1[z]? = H[z]?) ∧ Bh u H1)) : sx_GA (ct_X Y a c) A nL pc lv st0 P := by
  subst hp
  subst hs
  obtain ⟨rfl, rfl⟩ := ha
  have hrm : sx_rm Y = rm := hC.2.2.2.2.2.2.2.1
  obtain ⟨rfl, hX2⟩ : sx_l Y = l ∧ True := ⟨hC.2.2.2.2.2.2.2.2.1, trivial⟩
  have hts := hC.2.2.2.2.2.1
  have hSs : sx_S K (sx_s Y) := hC.2.2.2.2.2.2.2.2.2
  intro H locs ls hP hS hl
  have hw := hpre H hP
  exact va_callv (va_runI (As := []) (rest := st) ⟨hC.1, hC.2.1, hC.2.2.2.1, hC.2.2.2.2.1, hts⟩ hM ⟨callB_of 0 hts (sx_wg hcode) rfl hmc.1 hmc.2 (hts _ hini) (hts _ hlink) hy (by rw [hrm]; exact hR), hyn, hts _ hinst⟩ ⟨ct_blind, fun U hU hW => ⟨rfl, ⟨hSs.1, va_K.moved hW.alike hSs.2.1, by rw [hU]; exact (hSs.2.2.1.kept (fun z h1 h2 => hS.2.1 z h1 (fun h3 => h2 (hKA z h1 h3)))).moved hW.alike, hSs.2.2.2.warm hW⟩, hN.warm hW, by rw [hU]; exact ⟨hw, trivial⟩⟩⟩ rfl rfl hl.1 rfl (lv_room hst) hd (by rw [hrm]; exact hr)) hS (fun z _ h => hAA z h) (fun z h => hAA z h) (fun u t H1 locs1 ht hvm hw2 hB hz1 hk1 hS1 => kk u hw2 H1 locs1 ls ⟨H, hP, hk1, by have hB2 : Bh u t.heap := hB; rw [ht] at hB2; exact hB2⟩ hS1 hl)
set_option maxHeartbeats 4000000 in
/-- the law from its entry -/
theorem law_go {Y : sx_T} {K : sx_K} {b L B0 : Nat} {xs : Nat → Int32} {l : Launch} (hC : ct_C Y K code 4 R_law ret room_1 l) (hN : ct_N (sx_s Y)) (hB : (sx_s Y).heap.size = B0) (hA : ∀ j, j < 1060 → sx_A K (B0 + j)) (hX : va_X b L xs (sx_s Y) (sx_s Y).heap ∧ b < (sx_s Y).heap.size ∧ L ≤ 3072) (ha : sx_a Y = #[Value.ref b]) (hq : sx_q Y = lw_Z (sx_b Y) #[Value.ref b] (sx_s Y)) : sx_GA (ct_X Y 0 0) (lx_A Y) 4 0 [(0, .ref b)] [] (fun H => H.size = B0) := by
  obtain ⟨σ1, ρ1, hI, w1, w2⟩ := first_I
  have hKA : ∀ z, z < (sx_s Y).heap.size → lx_A Y z → sx_A K z := fun z h1 h2 => absurd h2 (Nat.not_le.mpr h1)
  have hSs : sx_S K (sx_s Y) := hC.2.2.2.2.2.2.2.2.2
  refine ct_new0 (ci := 10) (fs := [.null, .null, .null, .null, .null, .null, .null, .null, .null, .null, .int 0, .int 0, .null, .null]) (a2 := 1) (c2 := 14) (pc2 := 3) (sz := B0) (P2 := fun H => H.size = B0 + 1 ∧ va_at K.1 kx_cl (B0, .inr (10, [.null, .null, .null, .null, .null, .null, .null, .null, .null, .null, .int 0, .int 0, .null, .null])) H) hC kx_y10 kx_i10 kx_o10 lc_4004 lc_4006 lk_260 rfl (fun j hj => match j, hj with | 0, _ => rfl | 1, _ => rfl | 2, _ => rfl | 3, _ => rfl | 4, _ => rfl | 5, _ => rfl | 6, _ => rfl | 7, _ => rfl | 8, _ => rfl | 9, _ => rfl | 10, _ => rfl | 11, _ => rfl | 12, _ => rfl | 13, _ => rfl | j + 14, hj => absurd hj (by omega)) ⟨rfl, rfl⟩ ⟨Nat.le_of_ble_eq_true rfl, Nat.le_of_ble_eq_true rfl⟩ d_lw_0 rfl (fun H h => h) (fun H H1 h z o x => ⟨z, x⟩) ?_
  refine sx_dup (pc2 := 4) (ct_at (a := 1) (c := 14) hC ⟨Nat.le_of_ble_eq_true rfl, Nat.le_of_ble_eq_true rfl⟩) d_lw_3 rfl rfl ?_
  refine ct_callU (post := fun u : sx_M × sx_L => u.1 = σ1) (Bh := fun u H => H.size = B0 + 1 + 1033 ∧ sx_H (kc_K K B0 (B0 + 1)) u.1 u.2 H) (a2 := 1034) (c2 := 43540) (pc2 := 7) (q := B0) hC (i_St (hA 0 (by decide)) (fun j hj => by have h9 := hA (1 + j) (by omega); rw [show B0 + (1 + j) = B0 + 1 + j by omega] at h9; exact h9) (fun σ => σ = σ1) (w1 _ rfl)) ⟨rfl, rfl⟩ lc_4000 rfl hy_St_init lc_4001 lk_260 hN lc_4008 ⟨Nat.le_of_ble_eq_true rfl, Nat.le_of_ble_eq_true rfl⟩ (Nat.le_of_ble_eq_true rfl) rfl ⟨rfl, rfl⟩ ⟨Nat.le_of_ble_eq_true rfl, Nat.le_of_ble_eq_true rfl⟩ d_lw_4 rfl hKA (fun z h => by show (sx_s Y).heap.size ≤ z; rcases h with h | h <;> omega) (fun H h => ⟨⟨h.1, fun j x hj => by cases hj⟩, Nat.lt_succ_self _, h.2⟩) (fun u hu => ?_)
  obtain ⟨σu, τ1⟩ := u
  replace hu : σu = σ1 := hu
  subst hu
  refine ct_imp (P2 := fun H => H.size = B0 + 1034 ∧ sx_H (kc_K K B0 (B0 + 1)) σu τ1 H) (fun H1 h => ?_) ?_
  · obtain ⟨H, -, -, h1, h2⟩ := h
    exact ⟨by rw [h1], h2⟩
  refine sx_astore_n (pc2 := 8) (ct_at (a := 1034) (c := 43540) hC ⟨Nat.le_of_ble_eq_true rfl, Nat.le_of_ble_eq_true rfl⟩) _ [(1, .ref B0), (0, .ref b)] [0, 1] d_lw_7 rfl (by decide) rfl rfl rfl ?_
  refine ct_new0 (ci := 11) (fs := [.int 0, .null, .int 0, .null, .int 0, .null, .null, .null, .null, .null, .int 0, .int 0, .int 0, .int 0, .int 0, .int 0, .int 0, .int 0, .int 0, .null, .null, .null, .null, .null, .null, .null, .null, .null, .null, .null, .null, .int 0, .null, .int 0, .int 0, .null, .int 0, .int 0, .null, .null, .null]) (a2 := 1035) (c2 := 43581) (pc2 := 11) (sz := B0 + 1034) (P2 := fun H => (H.size = B0 + 1034 + 1 ∧ sx_H (kc_K K B0 (B0 + 1)) σu τ1 H) ∧ va_at K.1 kx_cl (B0 + 1034, .inr (11, [.int 0, .null, .int 0, .null, .int 0, .null, .null, .null, .null, .null, .int 0, .int 0, .int 0, .int 0, .int 0, .int 0, .int 0, .int 0, .int 0, .null, .null, .null, .null, .null, .null, .null, .null, .null, .null, .null, .null, .int 0, .null, .int 0, .int 0, .null, .int 0, .int 0, .null, .null, .null])) H) hC kx_y11 kx_i11 kx_o11 lc_4005 lc_4007 lk_364 rfl (fun j hj => match j, hj with | 0, _ => rfl | 1, _ => rfl | 2, _ => rfl | 3, _ => rfl | 4, _ => rfl | 5, _ => rfl | 6, _ => rfl | 7, _ => rfl | 8, _ => rfl | 9, _ => rfl | 10, _ => rfl | 11, _ => rfl | 12, _ => rfl | 13, _ => rfl | 14, _ => rfl | 15, _ => rfl | 16, _ => rfl | 17, _ => rfl | 18, _ => rfl | 19, _ => rfl | 20, _ => rfl | 21, _ => rfl | 22, _ => rfl | 23, _ => rfl | 24, _ => rfl | 25, _ => rfl | 26, _ => rfl | 27, _ => rfl | 28, _ => rfl | 29, _ => rfl | 30, _ => rfl | 31, _ => rfl | 32, _ => rfl | 33, _ => rfl | 34, _ => rfl | 35, _ => rfl | 36, _ => rfl | 37, _ => rfl | 38, _ => rfl | 39, _ => rfl | 40, _ => rfl | j + 41, hj => absurd hj (by omega)) ⟨rfl, rfl⟩ ⟨Nat.le_of_ble_eq_true rfl, Nat.le_of_ble_eq_true rfl⟩ d_lw_8 rfl (fun H h => h.1) (fun H H1 h z o x => ⟨⟨z, va_P.kept h.2 (fun a q ha => o q.1 (by have h8 : q.1 < H.size := (h.2 a q ha).lt; rw [h.1] at h8; exact h8))⟩, x⟩) ?_
  refine sx_dup (pc2 := 12) (ct_at (a := 1035) (c := 43581) hC ⟨Nat.le_of_ble_eq_true rfl, Nat.le_of_ble_eq_true rfl⟩) d_lw_11 rfl rfl ?_
  refine ct_callU (post := fun u : sx_M × sx_L => u.1 = ρ1 ∧ u.2 = md_τ) (Bh := fun u H => H.size = B0 + 1034 + 1 + 24 ∧ sx_H (kr_K K (B0 + 1034) (B0 + 1034 + 1)) u.1 u.2 H) (a2 := 1059) (c2 := 65944) (pc2 := 15) (q := B0 + 1034) hC (i_Mo (hA 1034 (by decide)) (fun j hj => by have h9 := hA (1034 + 1 + j) (by omega); rw [show B0 + (1034 + 1 + j) = B0 + 1034 + 1 + j by omega] at h9; exact h9) (fun ρ θ => ρ = ρ1 ∧ θ = md_τ) (w2 _ ⟨rfl, rfl⟩)) ⟨rfl, rfl⟩ lc_4002 rfl hy_Mo_init lc_4003 lk_364 hN lc_4009 ⟨Nat.le_of_ble_eq_true rfl, Nat.le_of_ble_eq_true rfl⟩ (Nat.le_of_ble_eq_true rfl) rfl ⟨rfl, rfl⟩ ⟨Nat.le_of_ble_eq_true rfl, Nat.le_of_ble_eq_true rfl⟩ d_lw_12 rfl hKA (fun z h => by show (sx_s Y).heap.size ≤ z; rcases h with h | h <;> omega) (fun H h => ⟨⟨h.1.1, fun j x hj => by cases hj⟩, Nat.lt_succ_self _, h.2⟩) (fun u hu => ?_)
  obtain ⟨ρu, θu⟩ := u
  obtain ⟨hu1, hu2⟩ : ρu = ρ1 ∧ θu = md_τ := hu
  subst hu1
  subst hu2
  have apart : ∀ q, sx_A (kc_K K B0 (B0 + 1)) q → B0 ≤ q ∧ q < B0 + 1034 := fun q h => by
    rcases kc_A h with h | h <;> omega
  have apart2 : ∀ q, sx_A (kr_K K (B0 + 1034) (B0 + 1034 + 1)) q → B0 + 1034 ≤ q ∧ q < B0 + 1059 := fun q h => by
    rcases kr_A h with h | h <;> omega
  have okC : sx_ok (kc_K K B0 (B0 + 1)) := kc_ok (Nat.lt_succ_self _)
  have okR : sx_ok (kr_K K (B0 + 1034) (B0 + 1034 + 1)) := kr_ok (Nat.lt_succ_self _)
  refine ct_imp (P2 := lx_H (kc_K K B0 (B0 + 1)) (kr_K K (B0 + 1034) (B0 + 1034 + 1)) σu τ1 ρu md_τ) (fun H1 h => ?_) ?_
  · obtain ⟨H, h0, o, h1, h2⟩ := h
    refine ⟨va_P.kept h0.1.2 (fun a q ha => o q.1 (h0.1.2 a q ha).lt (fun h9 => ?_)), h2⟩
    have h8 := apart q.1 ((sx_D okC σu τ1).2 a q ha)
    rcases h9 with h9 | h9 <;> omega
  refine sx_astore_n (pc2 := 16) (ct_at (a := 1059) (c := 65944) hC ⟨Nat.le_of_ble_eq_true rfl, Nat.le_of_ble_eq_true rfl⟩) _ [(2, .ref (B0 + 1034)), (1, .ref B0), (0, .ref b)] [0, 1, 2] d_lw_15 rfl (by decide) rfl rfl rfl ?_
  refine sx_iconst (v := 0) (pc2 := 17) (ct_at (a := 1059) (c := 65944) hC ⟨Nat.le_of_ble_eq_true rfl, Nat.le_of_ble_eq_true rfl⟩) d_lw_16 (by decide) rfl ?_
  refine sx_istore_n (pc2 := 18) (ct_at (a := 1059) (c := 65944) hC ⟨Nat.le_of_ble_eq_true rfl, Nat.le_of_ble_eq_true rfl⟩) _ [(3, .int (nI 0)), (0, .ref b), (1, .ref B0), (2, .ref (B0 + 1034))] [0, 3, 2, 1] d_lw_17 rfl (by decide) rfl rfl rfl ?_
  have e3 : ∀ k : Nat, 40 ≤ k → k < 43 → k = 40 ∨ k = 41 ∨ k = 42 := fun k h1 h2 => by omega
  have inK : ∀ q, B0 ≤ q → q < B0 + 1060 → sx_A K q := fun q h1 h2 => by
    have h9 := hA (q - B0) (by omega)
    rw [show B0 + (q - B0) = q by omega] at h9
    exact h9
  have SC : sx_S (kc_K K B0 (B0 + 1)) (sx_s Y) := hSs.sub rfl rfl (fun k n p h1 h2 => by rcases e3 k h1 h2 with rfl | rfl | rfl <;> rfl) okC (fun q h => inK q (apart q h).1 (by have := (apart q h).2; omega))
  have SR : sx_S (kr_K K (B0 + 1034) (B0 + 1034 + 1)) (sx_s Y) := hSs.sub rfl rfl (fun k n p h1 h2 => by rcases e3 k h1 h2 with rfl | rfl | rfl <;> rfl) okR (fun q h => inK q (by have := (apart2 q h).1; omega) (by have := (apart2 q h).2; omega))
  have hX0 := ct_at (a := 1059) (c := 65944) hC ⟨Nat.le_of_ble_eq_true rfl, Nat.le_of_ble_eq_true rfl⟩
  have CC : lx_C (ct_X Y 1059 65944) (kc_K K B0 (B0 + 1)) (kr_K K (B0 + 1034) (B0 + 1034 + 1)) b L xs l := by
    refine ⟨⟨hX0.1, hX0.2.1, hX0.2.2.1, hX0.2.2.2.1, hX0.2.2.2.2.1, hX0.2.2.2.2.2.1, hX0.2.2.2.2.2.2.1, hX0.2.2.2.2.2.2.2.1, hX0.2.2.2.2.2.2.2.2.1, SC⟩, SR, hX, ⟨fun q h => ?_, fun q h => ?_, fun q h h2 => ?_, fun q h h2 => ?_⟩, ⟨kc_C K B0 (B0 + 1), kr_F K (B0 + 1034) (B0 + 1034 + 1)⟩, ha, hq⟩
    · show (sx_s Y).heap.size ≤ q
      have := (apart q h).1; omega
    · show (sx_s Y).heap.size ≤ q
      have := (apart2 q h).1; omega
    · have h8 := apart q h
      have h9 := apart2 q h2
      omega
    · have h8 := apart2 q h
      have h9 := apart q h2
      omega
  exact lw_loop CC L 0 σu τ1 ρu md_τ (by omega) (by decide) hI
