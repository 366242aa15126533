theorem d_Pl_init_0 : decode prog_6_method_1_code 0 = .ok (.aload_n 0, 1) := by decide +kernel
theorem d_Pl_init_1 : decode prog_6_method_1_code 1 = .ok (.invokespecial 3, 3) := by decide +kernel
theorem d_Pl_init_4 : decode prog_6_method_1_code 4 = .ok (.aload_n 0, 1) := by decide +kernel
theorem d_Pl_init_5 : decode prog_6_method_1_code 5 = .ok (.iconst 0, 1) := by decide +kernel
theorem d_Pl_init_6 : decode prog_6_method_1_code 6 = .ok (.putfield 9, 3) := by decide +kernel
theorem d_Pl_init_9 : decode prog_6_method_1_code 9 = .ok (.aload_n 0, 1) := by decide +kernel
theorem d_Pl_init_10 : decode prog_6_method_1_code 10 = .ok (.iconst 0, 1) := by decide +kernel
theorem d_Pl_init_11 : decode prog_6_method_1_code 11 = .ok (.putfield 15, 3) := by decide +kernel
theorem d_Pl_init_14 : decode prog_6_method_1_code 14 = .ok (.aload_n 0, 1) := by decide +kernel
theorem d_Pl_init_15 : decode prog_6_method_1_code 15 = .ok (.bipush 16, 2) := by decide +kernel
theorem d_Pl_init_17 : decode prog_6_method_1_code 17 = .ok (.newarray .int, 2) := by decide +kernel
theorem d_Pl_init_19 : decode prog_6_method_1_code 19 = .ok (.putfield 18, 3) := by decide +kernel
theorem d_Pl_init_22 : decode prog_6_method_1_code 22 = .ok (.aload_n 0, 1) := by decide +kernel
theorem d_Pl_init_23 : decode prog_6_method_1_code 23 = .ok (.bipush 16, 2) := by decide +kernel
theorem d_Pl_init_25 : decode prog_6_method_1_code 25 = .ok (.newarray .int, 2) := by decide +kernel
theorem d_Pl_init_27 : decode prog_6_method_1_code 27 = .ok (.putfield 22, 3) := by decide +kernel
theorem d_Pl_init_30 : decode prog_6_method_1_code 30 = .ok (.aload_n 0, 1) := by decide +kernel
theorem d_Pl_init_31 : decode prog_6_method_1_code 31 = .ok (.bipush 16, 2) := by decide +kernel
theorem d_Pl_init_33 : decode prog_6_method_1_code 33 = .ok (.newarray .int, 2) := by decide +kernel
theorem d_Pl_init_35 : decode prog_6_method_1_code 35 = .ok (.putfield 25, 3) := by decide +kernel
theorem d_Pl_init_38 : decode prog_6_method_1_code 38 = .ok (.aload_n 0, 1) := by decide +kernel
theorem d_Pl_init_39 : decode prog_6_method_1_code 39 = .ok (.bipush 7, 2) := by decide +kernel
theorem d_Pl_init_41 : decode prog_6_method_1_code 41 = .ok (.bipush 7, 2) := by decide +kernel
theorem d_Pl_init_43 : decode prog_6_method_1_code 43 = .ok (.multianewarray 28 2, 4) := by decide +kernel
theorem d_Pl_init_47 : decode prog_6_method_1_code 47 = .ok (.putfield 30, 3) := by decide +kernel
theorem d_Pl_init_50 : decode prog_6_method_1_code 50 = .ok (.aload_n 0, 1) := by decide +kernel
theorem d_Pl_init_51 : decode prog_6_method_1_code 51 = .ok (.getstatic 33, 3) := by decide +kernel
theorem d_Pl_init_54 : decode prog_6_method_1_code 54 = .ok (.arraylength, 1) := by decide +kernel
theorem d_Pl_init_55 : decode prog_6_method_1_code 55 = .ok (.newarray .int, 2) := by decide +kernel
theorem d_Pl_init_57 : decode prog_6_method_1_code 57 = .ok (.putfield 36, 3) := by decide +kernel
theorem d_Pl_init_60 : decode prog_6_method_1_code 60 = .ok (.aload_n 0, 1) := by decide +kernel
theorem d_Pl_init_61 : decode prog_6_method_1_code 61 = .ok (.iconst 0, 1) := by decide +kernel
theorem d_Pl_init_62 : decode prog_6_method_1_code 62 = .ok (.putfield 39, 3) := by decide +kernel
theorem d_Pl_init_65 : decode prog_6_method_1_code 65 = .ok (.aload_n 0, 1) := by decide +kernel
theorem d_Pl_init_66 : decode prog_6_method_1_code 66 = .ok (.invokevirtual 43, 3) := by decide +kernel
theorem d_Pl_init_69 : decode prog_6_method_1_code 69 = .ok (.return_, 1) := by decide +kernel
def y_Pl_init : MethodName := ⟨"SensorTree$Plan", "<init>", "()V"⟩
theorem hy_Pl_init : y_Pl_init.cls ≠ "java/lang/invoke/MethodHandle" ∧ y_Pl_init.cls ≠ "java/lang/invoke/VarHandle" ∧ (parseMethodDescriptor y_Pl_init.desc).map (fun d => d.parameters.length) = some 0 := by decide +kernel
abbrev rm_Pl_init : Room := { frames := 1, cells := 12, slots := 113, locals := 22 }
theorem d_Re_init_0 : decode prog_8_method_1_code 0 = .ok (.aload_n 0, 1) := by decide +kernel
theorem d_Re_init_1 : decode prog_8_method_1_code 1 = .ok (.invokespecial 3, 3) := by decide +kernel
theorem d_Re_init_4 : decode prog_8_method_1_code 4 = .ok (.aload_n 0, 1) := by decide +kernel
theorem d_Re_init_5 : decode prog_8_method_1_code 5 = .ok (.new 9, 3) := by decide +kernel
theorem d_Re_init_8 : decode prog_8_method_1_code 8 = .ok (.dup, 1) := by decide +kernel
theorem d_Re_init_9 : decode prog_8_method_1_code 9 = .ok (.invokespecial 11, 3) := by decide +kernel
theorem d_Re_init_12 : decode prog_8_method_1_code 12 = .ok (.putfield 12, 3) := by decide +kernel
theorem d_Re_init_15 : decode prog_8_method_1_code 15 = .ok (.aload_n 0, 1) := by decide +kernel
theorem d_Re_init_16 : decode prog_8_method_1_code 16 = .ok (.new 18, 3) := by decide +kernel
theorem d_Re_init_19 : decode prog_8_method_1_code 19 = .ok (.dup, 1) := by decide +kernel
theorem d_Re_init_20 : decode prog_8_method_1_code 20 = .ok (.invokespecial 20, 3) := by decide +kernel
theorem d_Re_init_23 : decode prog_8_method_1_code 23 = .ok (.putfield 21, 3) := by decide +kernel
theorem d_Re_init_26 : decode prog_8_method_1_code 26 = .ok (.aload_n 0, 1) := by decide +kernel
theorem d_Re_init_27 : decode prog_8_method_1_code 27 = .ok (.bipush 7, 2) := by decide +kernel
theorem d_Re_init_29 : decode prog_8_method_1_code 29 = .ok (.newarray .int, 2) := by decide +kernel
theorem d_Re_init_31 : decode prog_8_method_1_code 31 = .ok (.putfield 25, 3) := by decide +kernel
theorem d_Re_init_34 : decode prog_8_method_1_code 34 = .ok (.aload_n 0, 1) := by decide +kernel
theorem d_Re_init_35 : decode prog_8_method_1_code 35 = .ok (.iconst 0, 1) := by decide +kernel
theorem d_Re_init_36 : decode prog_8_method_1_code 36 = .ok (.putfield 29, 3) := by decide +kernel
theorem d_Re_init_39 : decode prog_8_method_1_code 39 = .ok (.aload_n 0, 1) := by decide +kernel
theorem d_Re_init_40 : decode prog_8_method_1_code 40 = .ok (.iconst (-1), 1) := by decide +kernel
theorem d_Re_init_41 : decode prog_8_method_1_code 41 = .ok (.putfield 33, 3) := by decide +kernel
theorem d_Re_init_44 : decode prog_8_method_1_code 44 = .ok (.return_, 1) := by decide +kernel
def y_Re_init : MethodName := ⟨"SensorTree$Reader", "<init>", "()V"⟩
theorem hy_Re_init : y_Re_init.cls ≠ "java/lang/invoke/MethodHandle" ∧ y_Re_init.cls ≠ "java/lang/invoke/VarHandle" ∧ (parseMethodDescriptor y_Re_init.desc).map (fun d => d.parameters.length) = some 0 := by decide +kernel
abbrev rm_Re_init : Room := { frames := 2, cells := 18, slots := 1338, locals := 42 }
theorem lc_22 : (Jvm.Cond.methodLink "SensorTree$Plan" (3 : Nat) ({ cls := "java/lang/Object", name := "<init>", desc := "()V" } : Jvm.MethodName)) ∈ lw_g := lw_at 99 (by decide +kernel) (by decide +kernel)
theorem lc_23 : (Jvm.Cond.classLink "SensorTree$Plan" (28 : Nat) "[[I") ∈ lw_g := lw_at 100 (by decide +kernel) (by decide +kernel)
theorem lc_24 : (Jvm.Cond.methodLink "SensorTree$Plan" (43 : Nat) ({ cls := "SensorTree$Plan", name := "clear", desc := "()V" } : Jvm.MethodName)) ∈ lw_g := lw_at 104 (by decide +kernel) (by decide +kernel)
theorem lc_25 : (Jvm.Cond.methodLink "SensorTree$Reader" (3 : Nat) ({ cls := "java/lang/Object", name := "<init>", desc := "()V" } : Jvm.MethodName)) ∈ lw_g := lw_at 48 (by decide +kernel) (by decide +kernel)
theorem lc_26 : (Jvm.Cond.classLink "SensorTree$Reader" (9 : Nat) "SensorTree$Tokens") ∈ lw_g := lw_at 49 (by decide +kernel) (by decide +kernel)
theorem lc_27 : (Jvm.Cond.instantiable "SensorTree$Tokens" (10 : Nat)) ∈ lw_g := lw_at 50 (by decide +kernel) (by decide +kernel)
theorem lc_28 : (Jvm.Cond.instanceMethod ({ cls := "SensorTree$Tokens", name := "<init>", desc := "()V" } : Jvm.MethodName)) ∈ lw_g := lw_at 52 (by decide +kernel) (by decide +kernel)
set_option maxRecDepth 30000 in
theorem lc_29 : (Jvm.Cond.code ({ cls := "SensorTree$Tokens", name := "<init>", desc := "()V" } : Jvm.MethodName) prog_10_method_1_code (1 : Nat) (Option.none : Option Jvm.ClassFile.FieldType)) ∈ lw_g := lw_at 53 rfl (by decide +kernel)
theorem lc_30 : (Jvm.Cond.classLink "SensorTree$Reader" (18 : Nat) "SensorTree$Plan") ∈ lw_g := lw_at 94 (by decide +kernel) (by decide +kernel)
theorem lc_31 : (Jvm.Cond.instantiable "SensorTree$Plan" (8 : Nat)) ∈ lw_g := lw_at 95 (by decide +kernel) (by decide +kernel)
theorem lc_32 : (Jvm.Cond.instanceMethod ({ cls := "SensorTree$Plan", name := "<init>", desc := "()V" } : Jvm.MethodName)) ∈ lw_g := lw_at 97 (by decide +kernel) (by decide +kernel)
set_option maxRecDepth 30000 in
theorem lc_33 : (Jvm.Cond.code ({ cls := "SensorTree$Plan", name := "<init>", desc := "()V" } : Jvm.MethodName) prog_6_method_1_code (1 : Nat) (Option.none : Option Jvm.ClassFile.FieldType)) ∈ lw_g := lw_at 98 rfl (by decide +kernel)
theorem lc_34 : (Jvm.Cond.methodLink "SensorTree$Reader" (20 : Nat) ({ cls := "SensorTree$Plan", name := "<init>", desc := "()V" } : Jvm.MethodName)) ∈ lw_g := lw_at 96 (by decide +kernel) (by decide +kernel)
theorem gx_ext {cA : ClassId} {N : Nat} {f g : Nat → Value} (h : ∀ j, j < N → f j = g j) : arrV cA N f = arrV cA N g := by
  unfold arrV
  congr 1
  exact congrArg Array.ofFn (funext fun j => h j.1 j.2)
theorem gx_exti {cA : ClassId} {N : Nat} {f g : Nat → Int32} (h : ∀ j, j < N → f j = g j) : vp_cell cA (N, .inl f) = vp_cell cA (N, .inl g) := gx_ext (fun j hj => congrArg Value.int (h j hj))
theorem gx_extq {cA : ClassId} {N : Nat} {f g : Nat → Option Nat} (h : ∀ j, j < N → f j = g j) : vp_cell cA (N, .inr (.inr (.inr (.inr f)))) = vp_cell cA (N, .inr (.inr (.inr (.inr g)))) := gx_ext (fun j hj => congrArg va_rf (h j hj))
theorem sx_S.sub {K K2 : sx_K} {U : State} (h : sx_S K U) (e1 : K2.1 = K.1) (e2 : K2.2.1 = K.2.1) (e3 : ∀ k n p, 40 ≤ k → k < 43 → K2.2.2.1 k n p = K.2.2.1 k n p) (hok : sx_ok K2) (hA : ∀ q, sx_A K2 q → sx_A K q) : sx_S K2 U := by
  obtain ⟨-, h2, ⟨r1, ⟨r2, r3⟩, ⟨r4, r5⟩, ⟨r6, r7⟩, r8, r9⟩, t1, t2, t3, t4, t5, t6⟩ := h
  have f0 : (fun i => K2.2.2.1 40 i 0) = (fun i => K.2.2.1 40 i 0) := funext fun i => e3 40 i 0 (by decide) (by decide)
  have f1 : (fun i => K2.2.2.1 41 i 0) = (fun i => K.2.2.1 41 i 0) := funext fun i => e3 41 i 0 (by decide) (by decide)
  refine ⟨hok, ?_, ⟨?_, ⟨?_, ?_⟩, ⟨?_, ?_⟩, ⟨?_, ?_⟩, r8.narrow hA, r9.narrow hA⟩, ?_, ?_, ?_, ?_, ?_, ?_⟩
  · rw [e1, show sx_ty K2 = sx_ty K by unfold sx_ty; rw [e2]]; exact h2
  · rw [f0, f1]; exact r1.narrow hA
  · rw [e3 42 0 0 (by decide) (by decide)]; exact r2.narrow hA
  · rw [e3 42 0 0 (by decide) (by decide)]; exact r3.narrow hA
  · rw [e3 42 1 0 (by decide) (by decide)]; exact r4.narrow hA
  · rw [e3 42 1 0 (by decide) (by decide)]; exact r5.narrow hA
  · rw [e3 42 2 0 (by decide) (by decide)]; exact r6.narrow hA
  · rw [e3 42 2 0 (by decide) (by decide)]; exact r7.narrow hA
  · rw [e3 40 0 0 (by decide) (by decide)]; exact t1
  · rw [e3 40 1 0 (by decide) (by decide)]; exact t2
  · rw [e3 40 2 0 (by decide) (by decide)]; exact t3
  · rw [e3 40 3 0 (by decide) (by decide)]; exact t4
  · rw [e3 40 4 0 (by decide) (by decide)]; exact t5
  · rw [e3 40 5 0 (by decide) (by decide)]; exact t6
def kp_I : List (Nat × Nat × Nat) := [(8, 1, 0), (9, 1, 0), (10, 1, 0), (11, 1, 0), (12, 1, 0), (13, 1, 0), (13, 1, 1), (13, 1, 2), (13, 1, 3), (13, 1, 4), (13, 1, 5), (13, 1, 6), (14, 1, 0)]
def kp_ad (K : sx_K) (h0 s0 : Nat) : Nat → Nat → Nat → Nat := fun k n p => match k with
  | 8 => h0
  | 9 => s0
  | 10 => s0 + 1
  | 11 => s0 + 2
  | 12 => s0 + 3
  | 13 => s0 + 4 + p
  | 14 => s0 + 11
  | _ => K.2.2.1 k n p
/-- the cells of one plan -/
def kp_K (K : sx_K) (h0 s0 : Nat) : sx_K := (K.1, K.2.1, kp_ad K h0 s0, kp_I)
theorem kp_at (K : sx_K) (h0 s0 : Nat) : ∀ (a : Nat) (i : Nat × Nat × Nat), kp_I[a]? = some i → a < 13 ∧ kp_ad K h0 s0 i.1 i.2.1 i.2.2 = if a = 0 then h0 else s0 + (a - 1) := by
  intro a i h
  match a, h with
  | 0, h => cases h; exact ⟨by decide, rfl⟩
  | 1, h => cases h; exact ⟨by decide, rfl⟩
  | 2, h => cases h; exact ⟨by decide, rfl⟩
  | 3, h => cases h; exact ⟨by decide, rfl⟩
  | 4, h => cases h; exact ⟨by decide, rfl⟩
  | 5, h => cases h; exact ⟨by decide, rfl⟩
  | 6, h => cases h; exact ⟨by decide, rfl⟩
  | 7, h => cases h; exact ⟨by decide, rfl⟩
  | 8, h => cases h; exact ⟨by decide, rfl⟩
  | 9, h => cases h; exact ⟨by decide, rfl⟩
  | 10, h => cases h; exact ⟨by decide, rfl⟩
  | 11, h => cases h; exact ⟨by decide, rfl⟩
  | 12, h => cases h; exact ⟨by decide, rfl⟩
  | a + 13, h => exact absurd h (by rw [List.getElem?_eq_none (by show 13 ≤ _; omega)]; exact fun q => by cases q)
theorem kp_ok {K : sx_K} {h0 s0 : Nat} (hlt : h0 < s0) : sx_ok (kp_K K h0 s0) := by
  have dec : ∀ a, a < 13 → ∀ b, b < 13 → kp_I[a]? = kp_I[b]? → a = b := by decide
  refine ⟨fun a b i ha hb => dec a (kp_at K h0 s0 a i ha).1 b (kp_at K h0 s0 b i hb).1 (ha.trans hb.symm), fun i hi j hj e => ?_⟩
  obtain ⟨a, ha⟩ := List.getElem?_of_mem hi
  obtain ⟨b, hb⟩ := List.getElem?_of_mem hj
  have e2 : kp_ad K h0 s0 i.1 i.2.1 i.2.2 = kp_ad K h0 s0 j.1 j.2.1 j.2.2 := e
  have ea := (kp_at K h0 s0 a i ha).2
  have eb := (kp_at K h0 s0 b j hb).2
  have hab : a = b := by
    rw [ea, eb] at e2
    by_cases h1 : a = 0 <;> by_cases h2 : b = 0
    · omega
    · rw [if_pos h1, if_neg h2] at e2; omega
    · rw [if_neg h1, if_pos h2] at e2; omega
    · rw [if_neg h1, if_neg h2] at e2; omega
  subst hab
  exact Option.some.inj (ha.symm.trans hb)
theorem kp_A {K : sx_K} {h0 s0 : Nat} {q : Nat} (h : sx_A (kp_K K h0 s0) q) : q = h0 ∨ (s0 ≤ q ∧ q < s0 + 12) := by
  obtain ⟨i, hi, rfl⟩ := h
  obtain ⟨a, ha⟩ := List.getElem?_of_mem hi
  obtain ⟨h1, h2⟩ := kp_at K h0 s0 a i ha
  show kp_ad K h0 s0 i.1 i.2.1 i.2.2 = h0 ∨ _
  rw [show (kp_K K h0 s0).2.2.1 i.1 i.2.1 i.2.2 = kp_ad K h0 s0 i.1 i.2.1 i.2.2 from rfl, h2]
  by_cases h3 : a = 0
  · rw [if_pos h3]; exact Or.inl rfl
  · rw [if_neg h3]; right; omega
theorem kp_C (K : sx_K) (h0 s0 : Nat) : kq_C (kp_K K h0 s0) := by
  intro k n p hn hp h1 h2
  subst hn
  show (k, 1, p) ∈ kp_I
  have hk : k = 8 ∨ k = 9 ∨ k = 10 ∨ k = 11 ∨ k = 12 ∨ k = 13 ∨ k = 14 := by omega
  rcases hk with rfl | rfl | rfl | rfl | rfl | rfl | rfl
  all_goals first
    | (have hp0 : p = 0 := by (have hp1 : p < 1 := hp); omega
       subst hp0; decide)
    | (have hp7 : p = 0 ∨ p = 1 ∨ p = 2 ∨ p = 3 ∨ p = 4 ∨ p = 5 ∨ p = 6 := by (have hp1 : p < 7 := hp); omega
       rcases hp7 with rfl | rfl | rfl | rfl | rfl | rfl | rfl <;> decide)
section PLAN
variable {Y : sx_T} {K : sx_K} {A : Nat → Prop} {cc : ByteArray} {nL : Nat} {own : String} {ret : Option FieldType} {rm : Room} {l : Launch} {pc pc2 a c a2 c2 h0 s0 : Nat} {lv : List (Nat × Value)} {st : List Value} {P P2 : Heap → Prop} {e : va_E} {es es2 : List va_E}
def gx_es (K : sx_K) (h : Nat) : List va_E := [.inl (K.2.1 6, 7, .inr (.inr (.inr (.inr (gx_f h 7))))), .inl (K.2.1 0, 7, .inl (fun _ => 0)), .inl (K.2.1 0, 7, .inl (fun _ => 0)), .inl (K.2.1 0, 7, .inl (fun _ => 0)), .inl (K.2.1 0, 7, .inl (fun _ => 0)), .inl (K.2.1 0, 7, .inl (fun _ => 0)), .inl (K.2.1 0, 7, .inl (fun _ => 0)), .inl (K.2.1 0, 7, .inl (fun _ => 0))]
theorem ct_grid (hC : ct_C Y K cc nL own ret rm l) {index : Nat} (n : Nat) (hG : gx_N (sx_s Y)) (hcl : Cond.classLink own index "[[I" ∈ lw_g) (harr : Cond.arrayClass .int ∈ lw_g) (ha : a + 8 = a2 ∧ c + 56 = c2) (hr : a2 ≤ rm.cells ∧ c2 ≤ rm.slots) (hd : decode cc pc = .ok (.multianewarray index 2, 4)) (hp : pc + 4 = pc2) (hn : es.length = n) (hw : es ++ gx_es K (s0 + n) = es2) (kk : sx_GA (ct_X Y a2 c2) A nL pc2 lv (.ref (s0 + n) :: st) (ct_W K h0 s0 e es2)) : sx_GA (ct_X Y a c) A nL pc lv (.int 7 :: .int 7 :: st) (ct_W K h0 s0 e es) := by
  subst hp
  subst hn
  subst hw
  obtain ⟨rfl, rfl⟩ := ha
  have hrm : sx_rm Y = rm := hC.2.2.2.2.2.2.2.1
  have hts := hC.2.2.2.2.2.1
  have hK := hC.2.2.2.2.2.2.2.2.2.2.1
  intro H locs ls hP hS hl
  refine gx_W hC.1 hC.2.1 hC.2.2.2.2.1 (hts _ hcl) hG (hts _ harr) hd (by rw [hrm]; exact hr.1) (by rw [hrm]; exact hr.2) hP.1.1 (fun H1 cA cI n1 n2 z e1 e2 o => ?_)
  have r6 : (sx_s Y).vm.findClass "[[I" = some (K.2.1 6) := (hK.2 6 _ rfl).2
  have r0 : (sx_s Y).vm.findClass "[I" = some (K.2.1 0) := (hK.2 0 _ rfl).2
  have hcA : cA = K.2.1 6 := Option.some.inj (n1.symm.trans r6)
  have hcI : cI = K.2.1 0 := Option.some.inj (n2.symm.trans r0)
  subst hcA
  subst hcI
  have hle : (sx_s Y).heap.size ≤ s0 + es.length := by rw [← hP.1.1]; exact hS.1
  have hlt := hP.2.1
  refine kk H1 locs ls ⟨⟨by rw [z, List.length_append]; rfl, fun j x hj => ?_⟩, hlt, hP.2.2.kept (o h0 (by omega))⟩ ⟨by rw [z]; exact Nat.le_trans hle (by omega), fun x h1 h2 => (o x (Nat.lt_of_lt_of_le h1 hle)).trans (hS.2.1 x h1 h2), hS.2.2⟩ hl
  by_cases hj1 : j < es.length
  · rw [List.getElem?_append_left hj1] at hj
    exact (hP.1.2 j x hj).kept (o _ (by show s0 + j < _; omega))
  · rw [List.getElem?_append_right (by omega)] at hj
    obtain ⟨i, hi⟩ : ∃ i, j = es.length + i := ⟨j - es.length, by omega⟩
    subst hi
    rw [show es.length + i - es.length = i by omega] at hj
    match i, hj with
    | 0, hj => cases hj; exact e1
    | 1, hj => cases hj; exact e2 0 (by decide)
    | 2, hj => cases hj; exact e2 1 (by decide)
    | 3, hj => cases hj; exact e2 2 (by decide)
    | 4, hj => cases hj; exact e2 3 (by decide)
    | 5, hj => cases hj; exact e2 4 (by decide)
    | 6, hj => cases hj; exact e2 5 (by decide)
    | 7, hj => cases hj; exact e2 6 (by decide)
    | i + 8, hj => exact absurd hj (by rw [List.getElem?_eq_none (by show 8 ≤ _; omega)]; exact fun q => by cases q)
theorem ct_ro {q : Nat} (hz : (sx_s Y).heap.size = s0) (hA0 : sx_A K h0) (hlt : q < (sx_s Y).heap.size) (h : ¬ sx_A K q) : ¬ ct_A h0 s0 q := by
  intro z
  rcases z with z | z
  · rw [z] at h; exact h hA0
  · rw [hz] at hlt; omega
theorem ct_gets (hC : ct_C Y K cc nL own ret rm l) {Cn n2 d2 : String} {v : Value} {index : Nat} (hZ : va_Z Cn n2 d2 v (sx_A K) (sx_s Y) (sx_s Y).heap) (hlink : Cond.fieldLink own index Cn n2 d2 ∈ lw_g) (hd : decode cc pc = .ok (.getstatic index, 3)) (hp : pc + 3 = pc2) (hz : (sx_s Y).heap.size = s0) (hA0 : sx_A K h0) (kk : sx_GA (ct_X Y a c) (ct_A h0 s0) nL pc2 lv (v :: st) P) : sx_GA (ct_X Y a c) (ct_A h0 s0) nL pc lv st P := by
  subst hp
  intro H locs ls hP hS hl
  have hZ2 : va_Z Cn n2 d2 v (ct_A h0 s0) (sx_s Y) (sx_s Y).heap := by
    obtain ⟨cf, kf, fi, f, ad, cell, q1, q2, q3, q4, q5, q6, q7, q8⟩ := hZ
    exact ⟨cf, kf, fi, f, ad, cell, q1, q2, q3, q4, q5, q6, q7, ct_ro hz hA0 (Array.getElem?_eq_some_iff.mp q5).1 q8⟩
  exact va_gets hC.1 hC.2.1 hZ2 hS hC.2.2.2.2.1 (hC.2.2.2.2.2.1 _ hlink) (fun _ h => h) hd (kk H locs ls hP hS hl)
theorem ct_tlen (hC : ct_C Y K cc nL own ret rm l) {t N : Nat} {f : Nat → Value} {ty : FieldType} {v : Int32} (hT : va_T ty t N f (sx_A K) (sx_s Y) (sx_s Y).heap) (hv : Int32.ofNat N = v) (hd : decode cc pc = .ok (.arraylength, 1)) (hp : pc + 1 = pc2) (hz : (sx_s Y).heap.size = s0) (hA0 : sx_A K h0) (kk : sx_GA (ct_X Y a c) (ct_A h0 s0) nL pc2 lv (.int v :: st) P) : sx_GA (ct_X Y a c) (ct_A h0 s0) nL pc lv (.ref t :: st) P := by
  subst hp
  intro H locs ls hP hS hl
  have hT2 : va_T ty t N f (ct_A h0 s0) (sx_s Y) (sx_s Y).heap := by
    obtain ⟨cell, q1, q2, q3, q4, q5, q6, q7⟩ := hT
    exact ⟨cell, q1, q2, q3, q4, q5, q6, ct_ro hz hA0 (Array.getElem?_eq_some_iff.mp q1).1 q7⟩
  exact va_tlen hC.1 hC.2.1 hT2 hS hv hd (kk H locs ls hP hS hl)
theorem ct_size {p : Program} {l : Launch} {e : Env} {R : Room} {s : State} {m : MethodId} {args : Array Value} {below : List Frame} {meth : Method} {c : Code} {H : Heap} {locs : List Loc} {cells slots : Nat} {Q : State → Prop} {g : JFrame} (kk : H.size ≤ s.heap.size + cells → W p l e R s m args below meth c H locs cells slots Q g) : W p l e R s m args below meth c H locs cells slots Q g := by
  intro T hT X
  exact kk (by rw [← hT]; exact X.heapSize) T hT X
theorem ct_SU {U : State} {H : Heap} {locs : List Loc} (hSs : sx_S K (sx_s Y)) (hz : (sx_s Y).heap.size = s0) (hA0 : sx_A K h0) (hS : va_S (ct_A h0 s0) (sx_s Y).heap H locs) (hU : U.heap = H) (hW : (sx_s Y).WarmedH U.vm) : sx_S K U :=
  ⟨hSs.1, va_K.moved hW.alike hSs.2.1, by rw [hU]; exact (hSs.2.2.1.kept (fun z h1 h2 => hS.2.1 z h1 (ct_ro hz hA0 h1 h2))).moved hW.alike, hSs.2.2.2.warm hW⟩
set_option maxRecDepth 100000 in
set_option maxHeartbeats 4000000 in
theorem ct_clear (hC : ct_C Y K cc nL "SensorTree$Plan" ret rm l) (hz : (sx_s Y).heap.size = s0) (hA0 : sx_A K h0) (hAS : ∀ j, j < 12 → sx_A K (s0 + j)) (hR : rm_Pl_clear.frames + 1 ≤ rm.frames ∧ 8 + (3 + 11) + rm_Pl_clear.locals ≤ rm.locals) (hst : (st.map fun v => v.category).sum ≤ 8) (hr : 12 ≤ rm.cells ∧ c ≤ rm.slots) (hlink : Cond.methodLink "SensorTree$Plan" 43 y_Pl_clear ∈ lw_g) (hd : decode cc pc = .ok (.invokevirtual 43, 3)) (hp : pc + 3 = pc2) (kk : sx_GA (ct_X Y 12 c) (ct_A h0 s0) nL pc2 lv st (ct_W K h0 s0 (.inr (4, [.int 0, .int 0, .ref (s0 + 0), .ref (s0 + 1), .ref (s0 + 2), .ref (s0 + 3), .ref (s0 + 11), .int 0])) [.inl (K.2.1 0, 16, .inl (fun _ => 0)), .inl (K.2.1 0, 16, .inl (fun _ => 0)), .inl (K.2.1 0, 16, .inl (fun _ => 0)), .inl (K.2.1 6, 7, .inr (.inr (.inr (.inr (fun j => some (s0 + 4 + j)))))), .inl (K.2.1 0, 7, .inl (fun _ => -1)), .inl (K.2.1 0, 7, .inl (fun _ => -1)), .inl (K.2.1 0, 7, .inl (fun _ => -1)), .inl (K.2.1 0, 7, .inl (fun _ => -1)), .inl (K.2.1 0, 7, .inl (fun _ => -1)), .inl (K.2.1 0, 7, .inl (fun _ => -1)), .inl (K.2.1 0, 7, .inl (fun _ => -1)), .inl (K.2.1 0, 9, .inl (fun j => kx_sta 0 j))])) : sx_GA (ct_X Y 12 c) (ct_A h0 s0) nL pc lv (.ref h0 :: st) (ct_W K h0 s0 (.inr (4, [.int 0, .int 0, .ref (s0 + 0), .ref (s0 + 1), .ref (s0 + 2), .ref (s0 + 3), .ref (s0 + 11), .int 0])) [.inl (K.2.1 0, 16, .inl (fun _ => 0)), .inl (K.2.1 0, 16, .inl (fun _ => 0)), .inl (K.2.1 0, 16, .inl (fun _ => 0)), .inl (K.2.1 6, 7, .inr (.inr (.inr (.inr (gx_f (s0 + 3) 7))))), .inl (K.2.1 0, 7, .inl (fun _ => 0)), .inl (K.2.1 0, 7, .inl (fun _ => 0)), .inl (K.2.1 0, 7, .inl (fun _ => 0)), .inl (K.2.1 0, 7, .inl (fun _ => 0)), .inl (K.2.1 0, 7, .inl (fun _ => 0)), .inl (K.2.1 0, 7, .inl (fun _ => 0)), .inl (K.2.1 0, 7, .inl (fun _ => 0)), .inl (K.2.1 0, 9, .inl (fun _ => 0))]) := by
  subst hp
  have hrm : sx_rm Y = rm := hC.2.2.2.2.2.2.2.1
  obtain ⟨rfl, hX2⟩ : sx_l Y = l ∧ True := ⟨hC.2.2.2.2.2.2.2.2.1, trivial⟩
  have hts := hC.2.2.2.2.2.1
  have hSs : sx_S K (sx_s Y) := hC.2.2.2.2.2.2.2.2.2
  intro H locs ls hP hS hl
  have hsz : H.size = s0 + 12 := hP.1.1
  have hlt := hP.2.1
  have hx : sx_H (kp_K K h0 s0) (fun _ _ _ _ => 0) (fun _ _ => 0) H := by
    intro i q hq
    match i, hq with
    | 0, hq => cases hq; exact hP.2.2
    | 1, hq => cases hq; exact hP.1.2 0 _ rfl
    | 2, hq => cases hq; exact hP.1.2 1 _ rfl
    | 3, hq => cases hq; exact hP.1.2 2 _ rfl
    | 4, hq =>
      cases hq
      have h3 : H[s0 + 3]? = some (vp_cell (K.2.1 6) (7, .inr (.inr (.inr (.inr (gx_f (s0 + 3) 7)))))) := hP.1.2 3 _ rfl
      show H[s0 + 3]? = some (vp_cell (K.2.1 6) (7, .inr (.inr (.inr (.inr (fun j => some (s0 + 4 + j)))))))
      rw [h3]
      exact congrArg some (gx_extq (fun j hj => by unfold gx_f; rw [if_pos hj]))
    | 5, hq => cases hq; exact hP.1.2 4 _ rfl
    | 6, hq => cases hq; exact hP.1.2 5 _ rfl
    | 7, hq => cases hq; exact hP.1.2 6 _ rfl
    | 8, hq => cases hq; exact hP.1.2 7 _ rfl
    | 9, hq => cases hq; exact hP.1.2 8 _ rfl
    | 10, hq => cases hq; exact hP.1.2 9 _ rfl
    | 11, hq => cases hq; exact hP.1.2 10 _ rfl
    | 12, hq => cases hq; exact hP.1.2 11 _ rfl
    | i + 13, hq => exact absurd hq (by rw [List.getElem?_eq_none (by show 13 ≤ _; omega)]; exact fun q => by cases q)
  obtain ⟨σ2, ⟨k1, k2, k3⟩, k4, k5, k6, k7⟩ := C_clear (σ := fun _ _ _ _ => 0)
  have hM := c_Pq_clear (l := sx_l Y) (K := kp_K K h0 s0) (kp_C K h0 s0) 1 (fun _ _ _ _ => 0) (fun _ _ => 0) (fun σ' => σ' = σ2) rfl (k7 _ rfl)
  have hAA : ∀ q, sx_A (kp_K K h0 s0) q → ct_A h0 s0 q := fun q h => by
    rcases kp_A h with h | h
    · exact Or.inl h
    · exact Or.inr h.1
  have hAB : ∀ q, sx_A (kp_K K h0 s0) q → sx_A K q := fun q h => by
    rcases kp_A h with h | h
    · rw [h]; exact hA0
    · have := hAS (q - s0) (by omega)
      rw [show s0 + (q - s0) = q by omega] at this
      exact this
  refine va_callv (va_runV (As := []) (rest := st) ⟨hC.1, hC.2.1, hC.2.2.2.1, hC.2.2.2.2.1, hts⟩ hM ⟨callB_of 0 hts (sx_wg lk_230) rfl rfl rfl (hts _ lk_126) (hts _ hlink) hy_Pl_clear (by rw [hrm]; exact hR), hts _ lk_232, hts _ lk_233⟩ ⟨sx_blind, va_recv (ci := 4) (q0 := 0) hSs.2.1 hx rfl rfl, fun U hU hW => ⟨rfl, (ct_SU hSs hz hA0 hS hU hW).sub rfl rfl (fun k n p h1 h2 => ?_) (kp_ok hlt) hAB, by rw [hU]; exact hx⟩⟩ rfl rfl hl.1 rfl (lv_room hst) hd (by rw [hrm]; exact hr)) hS (fun q _ h => hAA q h) hAA (fun u t H1 locs1 ht hvm hw hB hz1 hk1 hS1 => ?_)
  · have hk : k = 40 ∨ k = 41 ∨ k = 42 := by omega
    rcases hk with rfl | rfl | rfl <;> rfl
  have hB2 : sx_H (kp_K K h0 s0) u.1 u.2 H1 := by have hB3 : sx_H (kp_K K h0 s0) u.1 u.2 t.heap := hB; rw [ht] at hB3; exact hB3
  have hu : u.1 = σ2 := hw
  rw [hu] at hB2
  refine ct_size (fun hz2 => ?_)
  replace hz2 : H1.size ≤ (sx_s Y).heap.size + 12 := hz2
  rw [hz] at hz2
  refine kk H1 locs1 ls ⟨⟨by show H1.size = s0 + 12; omega, fun j x hj => ?_⟩, hlt, ?_⟩ hS1 hl
  · match j, hj with
    | 0, hj =>
      cases hj
      have h9 : va_at K.1 kx_cl (s0 + 0, .inl (K.2.1 0, 16, .inl (σ2 9 1 0))) H1 := hB2 1 _ rfl
      rw [k6 9 1 0 (by decide)] at h9
      exact h9
    | 1, hj =>
      cases hj
      have h9 : va_at K.1 kx_cl (s0 + 1, .inl (K.2.1 0, 16, .inl (σ2 10 1 0))) H1 := hB2 2 _ rfl
      rw [k6 10 1 0 (by decide)] at h9
      exact h9
    | 2, hj =>
      cases hj
      have h9 : va_at K.1 kx_cl (s0 + 2, .inl (K.2.1 0, 16, .inl (σ2 11 1 0))) H1 := hB2 3 _ rfl
      rw [k6 11 1 0 (by decide)] at h9
      exact h9
    | 3, hj => cases hj; exact hB2 4 _ rfl
    | 4, hj =>
      cases hj
      have h9 : H1[s0 + 4]? = some (vp_cell (K.2.1 0) (7, .inl (σ2 13 1 0))) := hB2 5 _ rfl
      show H1[s0 + 4]? = some (vp_cell (K.2.1 0) (7, .inl (fun _ => -1)))
      rw [h9]
      exact congrArg some (gx_exti (fun j hj => by rw [k5 0 j (by decide) hj]))
    | 5, hj =>
      cases hj
      have h9 : H1[s0 + 5]? = some (vp_cell (K.2.1 0) (7, .inl (σ2 13 1 1))) := hB2 6 _ rfl
      show H1[s0 + 5]? = some (vp_cell (K.2.1 0) (7, .inl (fun _ => -1)))
      rw [h9]
      exact congrArg some (gx_exti (fun j hj => by rw [k5 1 j (by decide) hj]))
    | 6, hj =>
      cases hj
      have h9 : H1[s0 + 6]? = some (vp_cell (K.2.1 0) (7, .inl (σ2 13 1 2))) := hB2 7 _ rfl
      show H1[s0 + 6]? = some (vp_cell (K.2.1 0) (7, .inl (fun _ => -1)))
      rw [h9]
      exact congrArg some (gx_exti (fun j hj => by rw [k5 2 j (by decide) hj]))
    | 7, hj =>
      cases hj
      have h9 : H1[s0 + 7]? = some (vp_cell (K.2.1 0) (7, .inl (σ2 13 1 3))) := hB2 8 _ rfl
      show H1[s0 + 7]? = some (vp_cell (K.2.1 0) (7, .inl (fun _ => -1)))
      rw [h9]
      exact congrArg some (gx_exti (fun j hj => by rw [k5 3 j (by decide) hj]))
    | 8, hj =>
      cases hj
      have h9 : H1[s0 + 8]? = some (vp_cell (K.2.1 0) (7, .inl (σ2 13 1 4))) := hB2 9 _ rfl
      show H1[s0 + 8]? = some (vp_cell (K.2.1 0) (7, .inl (fun _ => -1)))
      rw [h9]
      exact congrArg some (gx_exti (fun j hj => by rw [k5 4 j (by decide) hj]))
    | 9, hj =>
      cases hj
      have h9 : H1[s0 + 9]? = some (vp_cell (K.2.1 0) (7, .inl (σ2 13 1 5))) := hB2 10 _ rfl
      show H1[s0 + 9]? = some (vp_cell (K.2.1 0) (7, .inl (fun _ => -1)))
      rw [h9]
      exact congrArg some (gx_exti (fun j hj => by rw [k5 5 j (by decide) hj]))
    | 10, hj =>
      cases hj
      have h9 : H1[s0 + 10]? = some (vp_cell (K.2.1 0) (7, .inl (σ2 13 1 6))) := hB2 11 _ rfl
      show H1[s0 + 10]? = some (vp_cell (K.2.1 0) (7, .inl (fun _ => -1)))
      rw [h9]
      exact congrArg some (gx_exti (fun j hj => by rw [k5 6 j (by decide) hj]))
    | 11, hj =>
      cases hj
      have h9 : H1[s0 + 11]? = some (vp_cell (K.2.1 0) (9, .inl (σ2 14 1 0))) := hB2 12 _ rfl
      show H1[s0 + 11]? = some (vp_cell (K.2.1 0) (9, .inl (fun j => kx_sta 0 j)))
      rw [h9]
      exact congrArg some (gx_exti (fun j hj => by rw [k4 j hj]))
    | j + 12, hj => exact absurd hj (by rw [List.getElem?_eq_none (by show 12 ≤ _; omega)]; exact fun q => by cases q)
  · have h8 : va_at K.1 kx_cl (h0, .inr (4, [.int (σ2 8 1 0 0), .int (σ2 8 1 0 1), .ref (s0 + 0), .ref (s0 + 1), .ref (s0 + 2), .ref (s0 + 3), .ref (s0 + 11), .int (σ2 8 1 0 7)])) H1 := hB2 0 _ rfl
    rw [k1, k2, k3] at h8
    exact h8
end PLAN
set_option maxHeartbeats 4000000 in
set_option maxRecDepth 100000 in
theorem i_Pl (l : Launch) (K : sx_K) (h0 s0 : Nat) (hA0 : sx_A K h0) (hAS : ∀ j, j < 12 → sx_A K (s0 + j)) : ct_M l K y_Pl_init prog_6_method_1_code 1 rm_Pl_init [] h0 s0 (.inr (4, [.int 0, .int 0, .null, .null, .null, .null, .null, .int 0])) (fun _ => True) (.inr (4, [.int 0, .int 0, .ref (s0 + 0), .ref (s0 + 1), .ref (s0 + 2), .ref (s0 + 3), .ref (s0 + 11), .int 0])) [.inl (K.2.1 0, 16, .inl (fun _ => 0)), .inl (K.2.1 0, 16, .inl (fun _ => 0)), .inl (K.2.1 0, 16, .inl (fun _ => 0)), .inl (K.2.1 6, 7, .inr (.inr (.inr (.inr (fun j => some (s0 + 4 + j)))))), .inl (K.2.1 0, 7, .inl (fun _ => -1)), .inl (K.2.1 0, 7, .inl (fun _ => -1)), .inl (K.2.1 0, 7, .inl (fun _ => -1)), .inl (K.2.1 0, 7, .inl (fun _ => -1)), .inl (K.2.1 0, 7, .inl (fun _ => -1)), .inl (K.2.1 0, 7, .inl (fun _ => -1)), .inl (K.2.1 0, 7, .inl (fun _ => -1)), .inl (K.2.1 0, 9, .inl (fun j => kx_sta 0 j))] := by
  refine ct_met (by decide) rfl (Nat.le_of_ble_eq_true rfl) (fun Y hC hin hN hE hz hG => ?_)
  refine sx_aload_n (pc2 := 1) (ct_at (a := 0) (c := 0) hC ⟨Nat.le_of_ble_eq_true rfl, Nat.le_of_ble_eq_true rfl⟩) 0 d_Pl_init_0 rfl rfl rfl ?_
  refine ct_obj (pc2 := 4) hC lc_22 lc_1 lc_2 ⟨Nat.le_of_ble_eq_true rfl, Nat.le_of_ble_eq_true rfl⟩ d_Pl_init_1 rfl ?_
  refine sx_aload_n (pc2 := 5) (ct_at (a := 0) (c := 0) hC ⟨Nat.le_of_ble_eq_true rfl, Nat.le_of_ble_eq_true rfl⟩) 0 d_Pl_init_4 rfl rfl rfl ?_
  refine sx_iconst (v := 0) (pc2 := 6) (ct_at (a := 0) (c := 0) hC ⟨Nat.le_of_ble_eq_true rfl, Nat.le_of_ble_eq_true rfl⟩) d_Pl_init_5 (by decide) rfl ?_
  refine ct_put (pc2 := 9) hC kx_y4 kx_i4 kx_o4 kx_n4 rfl 0 (by decide) lk_689 rfl (Or.inl rfl) (kx_o4 0 (by decide)) rfl rfl (Nat.le_of_ble_eq_true rfl) d_Pl_init_6 rfl (fs2 := [.int 0, .int 0, .null, .null, .null, .null, .null, .int 0]) rfl ?_
  refine sx_aload_n (pc2 := 10) (ct_at (a := 0) (c := 0) hC ⟨Nat.le_of_ble_eq_true rfl, Nat.le_of_ble_eq_true rfl⟩) 0 d_Pl_init_9 rfl rfl rfl ?_
  refine sx_iconst (v := 0) (pc2 := 11) (ct_at (a := 0) (c := 0) hC ⟨Nat.le_of_ble_eq_true rfl, Nat.le_of_ble_eq_true rfl⟩) d_Pl_init_10 (by decide) rfl ?_
  refine ct_put (pc2 := 14) hC kx_y4 kx_i4 kx_o4 kx_n4 rfl 1 (by decide) lk_690 rfl (Or.inl rfl) (kx_o4 1 (by decide)) rfl rfl (Nat.le_of_ble_eq_true rfl) d_Pl_init_11 rfl (fs2 := [.int 0, .int 0, .null, .null, .null, .null, .null, .int 0]) rfl ?_
  refine sx_aload_n (pc2 := 15) (ct_at (a := 0) (c := 0) hC ⟨Nat.le_of_ble_eq_true rfl, Nat.le_of_ble_eq_true rfl⟩) 0 d_Pl_init_14 rfl rfl rfl ?_
  refine sx_bipush (v := 16) (pc2 := 17) (ct_at (a := 0) (c := 0) hC ⟨Nat.le_of_ble_eq_true rfl, Nat.le_of_ble_eq_true rfl⟩) d_Pl_init_15 (by decide) rfl ?_
  refine ct_newa (t0 := 0) (atype := .int) (N := 16) (a2 := 1) (c2 := 16) (a0 := (16, .inl (fun _ => 0))) (pc2 := 19) hC 0 lc_5 rfl rfl (fun _ => rfl) (by decide) (by decide) (Nat.le_of_ble_eq_true rfl) ⟨rfl, rfl⟩ ⟨Nat.le_of_ble_eq_true rfl, Nat.le_of_ble_eq_true rfl⟩ d_Pl_init_17 rfl rfl (es2 := [.inl (K.2.1 0, 16, .inl (fun _ => 0))]) rfl ?_
  refine ct_put (pc2 := 22) hC kx_y4 kx_i4 kx_o4 kx_n4 rfl 2 (by decide) lk_691 rfl (Or.inr ⟨hin, rfl⟩) (kx_o4 2 (by decide)) rfl rfl (Nat.le_of_ble_eq_true rfl) d_Pl_init_19 rfl (fs2 := [.int 0, .int 0, .ref (s0 + 0), .null, .null, .null, .null, .int 0]) rfl ?_
  refine sx_aload_n (pc2 := 23) (ct_at (a := 1) (c := 16) hC ⟨Nat.le_of_ble_eq_true rfl, Nat.le_of_ble_eq_true rfl⟩) 0 d_Pl_init_22 rfl rfl rfl ?_
  refine sx_bipush (v := 16) (pc2 := 25) (ct_at (a := 1) (c := 16) hC ⟨Nat.le_of_ble_eq_true rfl, Nat.le_of_ble_eq_true rfl⟩) d_Pl_init_23 (by decide) rfl ?_
  refine ct_newa (t0 := 0) (atype := .int) (N := 16) (a2 := 2) (c2 := 32) (a0 := (16, .inl (fun _ => 0))) (pc2 := 27) hC 1 lc_5 rfl rfl (fun _ => rfl) (by decide) (by decide) (Nat.le_of_ble_eq_true rfl) ⟨rfl, rfl⟩ ⟨Nat.le_of_ble_eq_true rfl, Nat.le_of_ble_eq_true rfl⟩ d_Pl_init_25 rfl rfl (es2 := [.inl (K.2.1 0, 16, .inl (fun _ => 0)), .inl (K.2.1 0, 16, .inl (fun _ => 0))]) rfl ?_
  refine ct_put (pc2 := 30) hC kx_y4 kx_i4 kx_o4 kx_n4 rfl 3 (by decide) lk_692 rfl (Or.inr ⟨hin, rfl⟩) (kx_o4 3 (by decide)) rfl rfl (Nat.le_of_ble_eq_true rfl) d_Pl_init_27 rfl (fs2 := [.int 0, .int 0, .ref (s0 + 0), .ref (s0 + 1), .null, .null, .null, .int 0]) rfl ?_
  refine sx_aload_n (pc2 := 31) (ct_at (a := 2) (c := 32) hC ⟨Nat.le_of_ble_eq_true rfl, Nat.le_of_ble_eq_true rfl⟩) 0 d_Pl_init_30 rfl rfl rfl ?_
  refine sx_bipush (v := 16) (pc2 := 33) (ct_at (a := 2) (c := 32) hC ⟨Nat.le_of_ble_eq_true rfl, Nat.le_of_ble_eq_true rfl⟩) d_Pl_init_31 (by decide) rfl ?_
  refine ct_newa (t0 := 0) (atype := .int) (N := 16) (a2 := 3) (c2 := 48) (a0 := (16, .inl (fun _ => 0))) (pc2 := 35) hC 2 lc_5 rfl rfl (fun _ => rfl) (by decide) (by decide) (Nat.le_of_ble_eq_true rfl) ⟨rfl, rfl⟩ ⟨Nat.le_of_ble_eq_true rfl, Nat.le_of_ble_eq_true rfl⟩ d_Pl_init_33 rfl rfl (es2 := [.inl (K.2.1 0, 16, .inl (fun _ => 0)), .inl (K.2.1 0, 16, .inl (fun _ => 0)), .inl (K.2.1 0, 16, .inl (fun _ => 0))]) rfl ?_
  refine ct_put (pc2 := 38) hC kx_y4 kx_i4 kx_o4 kx_n4 rfl 4 (by decide) lk_693 rfl (Or.inr ⟨hin, rfl⟩) (kx_o4 4 (by decide)) rfl rfl (Nat.le_of_ble_eq_true rfl) d_Pl_init_35 rfl (fs2 := [.int 0, .int 0, .ref (s0 + 0), .ref (s0 + 1), .ref (s0 + 2), .null, .null, .int 0]) rfl ?_
  refine sx_aload_n (pc2 := 39) (ct_at (a := 3) (c := 48) hC ⟨Nat.le_of_ble_eq_true rfl, Nat.le_of_ble_eq_true rfl⟩) 0 d_Pl_init_38 rfl rfl rfl ?_
  refine sx_bipush (v := 7) (pc2 := 41) (ct_at (a := 3) (c := 48) hC ⟨Nat.le_of_ble_eq_true rfl, Nat.le_of_ble_eq_true rfl⟩) d_Pl_init_39 (by decide) rfl ?_
  refine sx_bipush (v := 7) (pc2 := 43) (ct_at (a := 3) (c := 48) hC ⟨Nat.le_of_ble_eq_true rfl, Nat.le_of_ble_eq_true rfl⟩) d_Pl_init_41 (by decide) rfl ?_
  refine ct_grid (a2 := 11) (c2 := 104) (pc2 := 47) hC 3 hN.2.2.2.2.2.2.2.2.2 lc_23 lc_5 ⟨rfl, rfl⟩ ⟨Nat.le_of_ble_eq_true rfl, Nat.le_of_ble_eq_true rfl⟩ d_Pl_init_43 rfl rfl (es2 := [.inl (K.2.1 0, 16, .inl (fun _ => 0)), .inl (K.2.1 0, 16, .inl (fun _ => 0)), .inl (K.2.1 0, 16, .inl (fun _ => 0)), .inl (K.2.1 6, 7, .inr (.inr (.inr (.inr (gx_f (s0 + 3) 7))))), .inl (K.2.1 0, 7, .inl (fun _ => 0)), .inl (K.2.1 0, 7, .inl (fun _ => 0)), .inl (K.2.1 0, 7, .inl (fun _ => 0)), .inl (K.2.1 0, 7, .inl (fun _ => 0)), .inl (K.2.1 0, 7, .inl (fun _ => 0)), .inl (K.2.1 0, 7, .inl (fun _ => 0)), .inl (K.2.1 0, 7, .inl (fun _ => 0))]) rfl ?_
  refine ct_put (pc2 := 50) hC kx_y4 kx_i4 kx_o4 kx_n4 rfl 5 (by decide) lk_694 rfl (Or.inr ⟨hin, rfl⟩) (kx_o4 5 (by decide)) rfl rfl (Nat.le_of_ble_eq_true rfl) d_Pl_init_47 rfl (fs2 := [.int 0, .int 0, .ref (s0 + 0), .ref (s0 + 1), .ref (s0 + 2), .ref (s0 + 3), .null, .int 0]) rfl ?_
  refine sx_aload_n (pc2 := 51) (ct_at (a := 11) (c := 104) hC ⟨Nat.le_of_ble_eq_true rfl, Nat.le_of_ble_eq_true rfl⟩) 0 d_Pl_init_50 rfl rfl rfl ?_
  refine ct_gets (pc2 := 54) hC hC.2.2.2.2.2.2.2.2.2.2.2.1.2.1.1 lk_8 d_Pl_init_51 rfl hz hA0 ?_
  refine ct_tlen (v := 9) (pc2 := 55) hC hC.2.2.2.2.2.2.2.2.2.2.2.1.2.1.2 (by decide) d_Pl_init_54 rfl hz hA0 ?_
  refine ct_newa (t0 := 0) (atype := .int) (N := 9) (a2 := 12) (c2 := 113) (a0 := (9, .inl (fun _ => 0))) (pc2 := 57) hC 11 lc_5 rfl rfl (fun _ => rfl) (by decide) (by decide) (Nat.le_of_ble_eq_true rfl) ⟨rfl, rfl⟩ ⟨Nat.le_of_ble_eq_true rfl, Nat.le_of_ble_eq_true rfl⟩ d_Pl_init_55 rfl rfl (es2 := [.inl (K.2.1 0, 16, .inl (fun _ => 0)), .inl (K.2.1 0, 16, .inl (fun _ => 0)), .inl (K.2.1 0, 16, .inl (fun _ => 0)), .inl (K.2.1 6, 7, .inr (.inr (.inr (.inr (gx_f (s0 + 3) 7))))), .inl (K.2.1 0, 7, .inl (fun _ => 0)), .inl (K.2.1 0, 7, .inl (fun _ => 0)), .inl (K.2.1 0, 7, .inl (fun _ => 0)), .inl (K.2.1 0, 7, .inl (fun _ => 0)), .inl (K.2.1 0, 7, .inl (fun _ => 0)), .inl (K.2.1 0, 7, .inl (fun _ => 0)), .inl (K.2.1 0, 7, .inl (fun _ => 0)), .inl (K.2.1 0, 9, .inl (fun _ => 0))]) rfl ?_
  refine ct_put (pc2 := 60) hC kx_y4 kx_i4 kx_o4 kx_n4 rfl 6 (by decide) lk_695 rfl (Or.inr ⟨hin, rfl⟩) (kx_o4 6 (by decide)) rfl rfl (Nat.le_of_ble_eq_true rfl) d_Pl_init_57 rfl (fs2 := [.int 0, .int 0, .ref (s0 + 0), .ref (s0 + 1), .ref (s0 + 2), .ref (s0 + 3), .ref (s0 + 11), .int 0]) rfl ?_
  refine sx_aload_n (pc2 := 61) (ct_at (a := 12) (c := 113) hC ⟨Nat.le_of_ble_eq_true rfl, Nat.le_of_ble_eq_true rfl⟩) 0 d_Pl_init_60 rfl rfl rfl ?_
  refine sx_iconst (v := 0) (pc2 := 62) (ct_at (a := 12) (c := 113) hC ⟨Nat.le_of_ble_eq_true rfl, Nat.le_of_ble_eq_true rfl⟩) d_Pl_init_61 (by decide) rfl ?_
  refine ct_put (pc2 := 65) hC kx_y4 kx_i4 kx_o4 kx_n4 rfl 7 (by decide) lk_696 rfl (Or.inl rfl) (kx_o4 7 (by decide)) rfl rfl (Nat.le_of_ble_eq_true rfl) d_Pl_init_62 rfl (fs2 := [.int 0, .int 0, .ref (s0 + 0), .ref (s0 + 1), .ref (s0 + 2), .ref (s0 + 3), .ref (s0 + 11), .int 0]) rfl ?_
  refine sx_aload_n (pc2 := 66) (ct_at (a := 12) (c := 113) hC ⟨Nat.le_of_ble_eq_true rfl, Nat.le_of_ble_eq_true rfl⟩) 0 d_Pl_init_65 rfl rfl rfl ?_
  refine ct_clear (pc2 := 69) hC hz hA0 hAS ⟨Nat.le_of_ble_eq_true rfl, Nat.le_of_ble_eq_true rfl⟩ (Nat.le_of_ble_eq_true rfl) ⟨Nat.le_of_ble_eq_true rfl, Nat.le_of_ble_eq_true rfl⟩ lc_24 d_Pl_init_66 rfl ?_
  exact ct_ret hC hE ⟨Nat.le_of_ble_eq_true rfl, Nat.le_of_ble_eq_true rfl⟩ d_Pl_init_69
set_option maxHeartbeats 4000000 in
set_option maxRecDepth 100000 in
theorem i_Re (l : Launch) (K : sx_K) (h0 s0 : Nat) (hA0 : sx_A K h0) (hAS : ∀ j, j < 18 → sx_A K (s0 + j)) : ct_M l K y_Re_init prog_8_method_1_code 1 rm_Re_init [] h0 s0 (.inr (6, [.null, .null, .null, .int 0, .int 0])) (fun _ => True) (.inr (6, [.ref (s0 + 0), .ref (s0 + 4), .ref (s0 + 17), .int 0, .int (-1)])) [.inr (8, [.ref (s0 + 1), .ref (s0 + 2), .ref (s0 + 3), .int 0, .int 0, .int (-1), .ref (K.2.2.1 40 0 0), .int 0, .int 0, .int 0]), .inl (K.2.1 0, 400, .inl (fun _ => 0)), .inl (K.2.1 0, 400, .inl (fun _ => 0)), .inl (K.2.1 0, 400, .inl (fun _ => 0)), .inr (4, [.int 0, .int 0, .ref (s0 + 5), .ref (s0 + 6), .ref (s0 + 7), .ref (s0 + 8), .ref (s0 + 16), .int 0]), .inl (K.2.1 0, 16, .inl (fun _ => 0)), .inl (K.2.1 0, 16, .inl (fun _ => 0)), .inl (K.2.1 0, 16, .inl (fun _ => 0)), .inl (K.2.1 6, 7, .inr (.inr (.inr (.inr (fun j => some (s0 + 9 + j)))))), .inl (K.2.1 0, 7, .inl (fun _ => -1)), .inl (K.2.1 0, 7, .inl (fun _ => -1)), .inl (K.2.1 0, 7, .inl (fun _ => -1)), .inl (K.2.1 0, 7, .inl (fun _ => -1)), .inl (K.2.1 0, 7, .inl (fun _ => -1)), .inl (K.2.1 0, 7, .inl (fun _ => -1)), .inl (K.2.1 0, 7, .inl (fun _ => -1)), .inl (K.2.1 0, 9, .inl (fun j => kx_sta 0 j)), .inl (K.2.1 0, 7, .inl (fun _ => 0))] := by
  refine ct_met (by decide) rfl (Nat.le_of_ble_eq_true rfl) (fun Y hC hin hN hE hz hG => ?_)
  refine sx_aload_n (pc2 := 1) (ct_at (a := 0) (c := 0) hC ⟨Nat.le_of_ble_eq_true rfl, Nat.le_of_ble_eq_true rfl⟩) 0 d_Re_init_0 rfl rfl rfl ?_
  refine ct_obj (pc2 := 4) hC lc_25 lc_1 lc_2 ⟨Nat.le_of_ble_eq_true rfl, Nat.le_of_ble_eq_true rfl⟩ d_Re_init_1 rfl ?_
  refine sx_aload_n (pc2 := 5) (ct_at (a := 0) (c := 0) hC ⟨Nat.le_of_ble_eq_true rfl, Nat.le_of_ble_eq_true rfl⟩) 0 d_Re_init_4 rfl rfl rfl ?_
  refine ct_new (ci := 8) (fs := [.null, .null, .null, .int 0, .int 0, .int 0, .null, .int 0, .int 0, .int 0]) (a2 := 1) (c2 := 10) (pc2 := 8) hC 0 kx_y8 kx_i8 kx_o8 lc_26 lc_27 lk_149 rfl (fun j hj => match j, hj with | 0, _ => rfl | 1, _ => rfl | 2, _ => rfl | 3, _ => rfl | 4, _ => rfl | 5, _ => rfl | 6, _ => rfl | 7, _ => rfl | 8, _ => rfl | 9, _ => rfl | j + 10, hj => absurd hj (by omega)) ⟨rfl, rfl⟩ ⟨Nat.le_of_ble_eq_true rfl, Nat.le_of_ble_eq_true rfl⟩ d_Re_init_5 rfl rfl (es2 := [.inr (8, [.null, .null, .null, .int 0, .int 0, .int 0, .null, .int 0, .int 0, .int 0])]) rfl ?_
  refine sx_dup (pc2 := 9) (ct_at (a := 1) (c := 10) hC ⟨Nat.le_of_ble_eq_true rfl, Nat.le_of_ble_eq_true rfl⟩) d_Re_init_8 rfl rfl ?_
  refine ct_call (As := []) (a2 := 4) (c2 := 1210) (es1 := []) (pc2 := 12) 0 hC (i_To l K (s0 + 0) (s0 + 0 + 1) (hAS 0 (by decide)) (fun j hj => by have h9 := hAS (0 + 1 + j) (by omega); rw [show s0 + (0 + 1 + j) = s0 + 0 + 1 + j by omega] at h9; exact h9)) lc_28 rfl hy_To_init lc_29 lk_149 hN (Or.inr ⟨_, hN.2.2.1⟩) ⟨Nat.le_of_ble_eq_true rfl, Nat.le_of_ble_eq_true rfl⟩ (Nat.le_of_ble_eq_true rfl) rfl ⟨rfl, rfl⟩ ⟨Nat.le_of_ble_eq_true rfl, Nat.le_of_ble_eq_true rfl⟩ d_Re_init_9 rfl hz hA0 (fun _ _ => trivial) rfl (es2 := [.inr (8, [.ref (s0 + 1), .ref (s0 + 2), .ref (s0 + 3), .int 0, .int 0, .int (-1), .ref (K.2.2.1 40 0 0), .int 0, .int 0, .int 0]), .inl (K.2.1 0, 400, .inl (fun _ => 0)), .inl (K.2.1 0, 400, .inl (fun _ => 0)), .inl (K.2.1 0, 400, .inl (fun _ => 0))]) rfl ?_
  refine ct_put (pc2 := 15) hC kx_y6 kx_i6 kx_o6 kx_n6 rfl 0 (by decide) lk_711 rfl (Or.inr ⟨hin, rfl⟩) (kx_o6 0 (by decide)) rfl rfl (Nat.le_of_ble_eq_true rfl) d_Re_init_12 rfl (fs2 := [.ref (s0 + 0), .null, .null, .int 0, .int 0]) rfl ?_
  refine sx_aload_n (pc2 := 16) (ct_at (a := 4) (c := 1210) hC ⟨Nat.le_of_ble_eq_true rfl, Nat.le_of_ble_eq_true rfl⟩) 0 d_Re_init_15 rfl rfl rfl ?_
  refine ct_new (ci := 4) (fs := [.int 0, .int 0, .null, .null, .null, .null, .null, .int 0]) (a2 := 5) (c2 := 1218) (pc2 := 19) hC 4 kx_y4 kx_i4 kx_o4 lc_30 lc_31 lk_126 rfl (fun j hj => match j, hj with | 0, _ => rfl | 1, _ => rfl | 2, _ => rfl | 3, _ => rfl | 4, _ => rfl | 5, _ => rfl | 6, _ => rfl | 7, _ => rfl | j + 8, hj => absurd hj (by omega)) ⟨rfl, rfl⟩ ⟨Nat.le_of_ble_eq_true rfl, Nat.le_of_ble_eq_true rfl⟩ d_Re_init_16 rfl rfl (es2 := [.inr (8, [.ref (s0 + 1), .ref (s0 + 2), .ref (s0 + 3), .int 0, .int 0, .int (-1), .ref (K.2.2.1 40 0 0), .int 0, .int 0, .int 0]), .inl (K.2.1 0, 400, .inl (fun _ => 0)), .inl (K.2.1 0, 400, .inl (fun _ => 0)), .inl (K.2.1 0, 400, .inl (fun _ => 0)), .inr (4, [.int 0, .int 0, .null, .null, .null, .null, .null, .int 0])]) rfl ?_
  refine sx_dup (pc2 := 20) (ct_at (a := 5) (c := 1218) hC ⟨Nat.le_of_ble_eq_true rfl, Nat.le_of_ble_eq_true rfl⟩) d_Re_init_19 rfl rfl ?_
  refine ct_call (As := []) (a2 := 17) (c2 := 1331) (es1 := [.inr (8, [.ref (s0 + 1), .ref (s0 + 2), .ref (s0 + 3), .int 0, .int 0, .int (-1), .ref (K.2.2.1 40 0 0), .int 0, .int 0, .int 0]), .inl (K.2.1 0, 400, .inl (fun _ => 0)), .inl (K.2.1 0, 400, .inl (fun _ => 0)), .inl (K.2.1 0, 400, .inl (fun _ => 0))]) (pc2 := 23) 4 hC (i_Pl l K (s0 + 4) (s0 + 4 + 1) (hAS 4 (by decide)) (fun j hj => by have h9 := hAS (4 + 1 + j) (by omega); rw [show s0 + (4 + 1 + j) = s0 + 4 + 1 + j by omega] at h9; exact h9)) lc_32 rfl hy_Pl_init lc_33 lk_126 hN (Or.inl lc_34) ⟨Nat.le_of_ble_eq_true rfl, Nat.le_of_ble_eq_true rfl⟩ (Nat.le_of_ble_eq_true rfl) rfl ⟨rfl, rfl⟩ ⟨Nat.le_of_ble_eq_true rfl, Nat.le_of_ble_eq_true rfl⟩ d_Re_init_20 rfl hz hA0 (fun _ _ => trivial) rfl (es2 := [.inr (8, [.ref (s0 + 1), .ref (s0 + 2), .ref (s0 + 3), .int 0, .int 0, .int (-1), .ref (K.2.2.1 40 0 0), .int 0, .int 0, .int 0]), .inl (K.2.1 0, 400, .inl (fun _ => 0)), .inl (K.2.1 0, 400, .inl (fun _ => 0)), .inl (K.2.1 0, 400, .inl (fun _ => 0)), .inr (4, [.int 0, .int 0, .ref (s0 + 5), .ref (s0 + 6), .ref (s0 + 7), .ref (s0 + 8), .ref (s0 + 16), .int 0]), .inl (K.2.1 0, 16, .inl (fun _ => 0)), .inl (K.2.1 0, 16, .inl (fun _ => 0)), .inl (K.2.1 0, 16, .inl (fun _ => 0)), .inl (K.2.1 6, 7, .inr (.inr (.inr (.inr (fun j => some (s0 + 9 + j)))))), .inl (K.2.1 0, 7, .inl (fun _ => -1)), .inl (K.2.1 0, 7, .inl (fun _ => -1)), .inl (K.2.1 0, 7, .inl (fun _ => -1)), .inl (K.2.1 0, 7, .inl (fun _ => -1)), .inl (K.2.1 0, 7, .inl (fun _ => -1)), .inl (K.2.1 0, 7, .inl (fun _ => -1)), .inl (K.2.1 0, 7, .inl (fun _ => -1)), .inl (K.2.1 0, 9, .inl (fun j => kx_sta 0 j))]) rfl ?_
  refine ct_put (pc2 := 26) hC kx_y6 kx_i6 kx_o6 kx_n6 rfl 1 (by decide) lk_712 rfl (Or.inr ⟨hin, rfl⟩) (kx_o6 1 (by decide)) rfl rfl (Nat.le_of_ble_eq_true rfl) d_Re_init_23 rfl (fs2 := [.ref (s0 + 0), .ref (s0 + 4), .null, .int 0, .int 0]) rfl ?_
  refine sx_aload_n (pc2 := 27) (ct_at (a := 17) (c := 1331) hC ⟨Nat.le_of_ble_eq_true rfl, Nat.le_of_ble_eq_true rfl⟩) 0 d_Re_init_26 rfl rfl rfl ?_
  refine sx_bipush (v := 7) (pc2 := 29) (ct_at (a := 17) (c := 1331) hC ⟨Nat.le_of_ble_eq_true rfl, Nat.le_of_ble_eq_true rfl⟩) d_Re_init_27 (by decide) rfl ?_
  refine ct_newa (t0 := 0) (atype := .int) (N := 7) (a2 := 18) (c2 := 1338) (a0 := (7, .inl (fun _ => 0))) (pc2 := 31) hC 17 lc_5 rfl rfl (fun _ => rfl) (by decide) (by decide) (Nat.le_of_ble_eq_true rfl) ⟨rfl, rfl⟩ ⟨Nat.le_of_ble_eq_true rfl, Nat.le_of_ble_eq_true rfl⟩ d_Re_init_29 rfl rfl (es2 := [.inr (8, [.ref (s0 + 1), .ref (s0 + 2), .ref (s0 + 3), .int 0, .int 0, .int (-1), .ref (K.2.2.1 40 0 0), .int 0, .int 0, .int 0]), .inl (K.2.1 0, 400, .inl (fun _ => 0)), .inl (K.2.1 0, 400, .inl (fun _ => 0)), .inl (K.2.1 0, 400, .inl (fun _ => 0)), .inr (4, [.int 0, .int 0, .ref (s0 + 5), .ref (s0 + 6), .ref (s0 + 7), .ref (s0 + 8), .ref (s0 + 16), .int 0]), .inl (K.2.1 0, 16, .inl (fun _ => 0)), .inl (K.2.1 0, 16, .inl (fun _ => 0)), .inl (K.2.1 0, 16, .inl (fun _ => 0)), .inl (K.2.1 6, 7, .inr (.inr (.inr (.inr (fun j => some (s0 + 9 + j)))))), .inl (K.2.1 0, 7, .inl (fun _ => -1)), .inl (K.2.1 0, 7, .inl (fun _ => -1)), .inl (K.2.1 0, 7, .inl (fun _ => -1)), .inl (K.2.1 0, 7, .inl (fun _ => -1)), .inl (K.2.1 0, 7, .inl (fun _ => -1)), .inl (K.2.1 0, 7, .inl (fun _ => -1)), .inl (K.2.1 0, 7, .inl (fun _ => -1)), .inl (K.2.1 0, 9, .inl (fun j => kx_sta 0 j)), .inl (K.2.1 0, 7, .inl (fun _ => 0))]) rfl ?_
  refine ct_put (pc2 := 34) hC kx_y6 kx_i6 kx_o6 kx_n6 rfl 2 (by decide) lk_713 rfl (Or.inr ⟨hin, rfl⟩) (kx_o6 2 (by decide)) rfl rfl (Nat.le_of_ble_eq_true rfl) d_Re_init_31 rfl (fs2 := [.ref (s0 + 0), .ref (s0 + 4), .ref (s0 + 17), .int 0, .int 0]) rfl ?_
  refine sx_aload_n (pc2 := 35) (ct_at (a := 18) (c := 1338) hC ⟨Nat.le_of_ble_eq_true rfl, Nat.le_of_ble_eq_true rfl⟩) 0 d_Re_init_34 rfl rfl rfl ?_
  refine sx_iconst (v := 0) (pc2 := 36) (ct_at (a := 18) (c := 1338) hC ⟨Nat.le_of_ble_eq_true rfl, Nat.le_of_ble_eq_true rfl⟩) d_Re_init_35 (by decide) rfl ?_
  refine ct_put (pc2 := 39) hC kx_y6 kx_i6 kx_o6 kx_n6 rfl 3 (by decide) lk_714 rfl (Or.inl rfl) (kx_o6 3 (by decide)) rfl rfl (Nat.le_of_ble_eq_true rfl) d_Re_init_36 rfl (fs2 := [.ref (s0 + 0), .ref (s0 + 4), .ref (s0 + 17), .int 0, .int 0]) rfl ?_
  refine sx_aload_n (pc2 := 40) (ct_at (a := 18) (c := 1338) hC ⟨Nat.le_of_ble_eq_true rfl, Nat.le_of_ble_eq_true rfl⟩) 0 d_Re_init_39 rfl rfl rfl ?_
  refine sx_iconst (v := (-1)) (pc2 := 41) (ct_at (a := 18) (c := 1338) hC ⟨Nat.le_of_ble_eq_true rfl, Nat.le_of_ble_eq_true rfl⟩) d_Re_init_40 (by decide) rfl ?_
  refine ct_put (pc2 := 44) hC kx_y6 kx_i6 kx_o6 kx_n6 rfl 4 (by decide) lk_789 rfl (Or.inl rfl) (kx_o6 4 (by decide)) rfl rfl (Nat.le_of_ble_eq_true rfl) d_Re_init_41 rfl (fs2 := [.ref (s0 + 0), .ref (s0 + 4), .ref (s0 + 17), .int 0, .int (-1)]) rfl ?_
  exact ct_ret hC hE ⟨Nat.le_of_ble_eq_true rfl, Nat.le_of_ble_eq_true rfl⟩ d_Re_init_44
