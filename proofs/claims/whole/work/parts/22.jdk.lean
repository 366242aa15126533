def yj_ck3 : MethodName := ⟨"jdk/internal/util/Preconditions", "checkIndex", "(IILjava/util/function/BiFunction;)I"⟩
theorem hj_ck3 : yj_ck3.cls ≠ "java/lang/invoke/MethodHandle" ∧ yj_ck3.cls ≠ "java/lang/invoke/VarHandle" ∧ (parseMethodDescriptor yj_ck3.desc).map (fun d => d.parameters.length) = some 3 := by decide +kernel
theorem dj_ck3_0 : decode prog_19_method_11_code 0 = .ok (.iload_n 0, 1) := by decide +kernel
theorem dj_ck3_1 : decode prog_19_method_11_code 1 = .ok (.ifCond .lt 8, 3) := by decide +kernel
theorem dj_ck3_4 : decode prog_19_method_11_code 4 = .ok (.iload_n 0, 1) := by decide +kernel
theorem dj_ck3_5 : decode prog_19_method_11_code 5 = .ok (.iload_n 1, 1) := by decide +kernel
theorem dj_ck3_6 : decode prog_19_method_11_code 6 = .ok (.if_icmp .lt 10, 3) := by decide +kernel
theorem dj_ck3_16 : decode prog_19_method_11_code 16 = .ok (.iload_n 0, 1) := by decide +kernel
theorem dj_ck3_17 : decode prog_19_method_11_code 17 = .ok (.ireturn, 1) := by decide +kernel
set_option maxRecDepth 30000 in
theorem lj_1 : (Jvm.Cond.code ({ cls := "jdk/internal/util/Preconditions", name := "checkIndex", desc := "(IILjava/util/function/BiFunction;)I" } : Jvm.MethodName) prog_19_method_11_code (3 : Nat) (Option.some Jvm.ClassFile.FieldType.int)) ∈ lw_g := lw_at 591 rfl (by decide +kernel)
theorem lj_2 : (Jvm.Cond.static ({ cls := "jdk/internal/util/Preconditions", name := "checkIndex", desc := "(IILjava/util/function/BiFunction;)I" } : Jvm.MethodName)) ∈ lw_g := lw_at 590 (by decide +kernel) (by decide +kernel)
def yj_ck : MethodName := ⟨"java/lang/String", "checkIndex", "(II)V"⟩
theorem hj_ck : yj_ck.cls ≠ "java/lang/invoke/MethodHandle" ∧ yj_ck.cls ≠ "java/lang/invoke/VarHandle" ∧ (parseMethodDescriptor yj_ck.desc).map (fun d => d.parameters.length) = some 2 := by decide +kernel
theorem dj_ck_0 : decode prog_15_method_155_code 0 = .ok (.iload_n 0, 1) := by decide +kernel
theorem dj_ck_1 : decode prog_15_method_155_code 1 = .ok (.iload_n 1, 1) := by decide +kernel
theorem dj_ck_2 : decode prog_15_method_155_code 2 = .ok (.getstatic 1053, 3) := by decide +kernel
theorem dj_ck_5 : decode prog_15_method_155_code 5 = .ok (.invokestatic 1059, 3) := by decide +kernel
theorem dj_ck_8 : decode prog_15_method_155_code 8 = .ok (.pop, 1) := by decide +kernel
theorem dj_ck_9 : decode prog_15_method_155_code 9 = .ok (.return_, 1) := by decide +kernel
set_option maxRecDepth 30000 in
theorem lj_3 : (Jvm.Cond.code ({ cls := "java/lang/String", name := "checkIndex", desc := "(II)V" } : Jvm.MethodName) prog_15_method_155_code (2 : Nat) (Option.none : Option Jvm.ClassFile.FieldType)) ∈ lw_g := lw_at 586 rfl (by decide +kernel)
theorem lj_4 : (Jvm.Cond.static ({ cls := "java/lang/String", name := "checkIndex", desc := "(II)V" } : Jvm.MethodName)) ∈ lw_g := lw_at 585 (by decide +kernel) (by decide +kernel)
def yj_lat : MethodName := ⟨"java/lang/StringLatin1", "charAt", "([BI)C"⟩
theorem hj_lat : yj_lat.cls ≠ "java/lang/invoke/MethodHandle" ∧ yj_lat.cls ≠ "java/lang/invoke/VarHandle" ∧ (parseMethodDescriptor yj_lat.desc).map (fun d => d.parameters.length) = some 2 := by decide +kernel
theorem dj_lat_0 : decode prog_16_method_2_code 0 = .ok (.iload_n 1, 1) := by decide +kernel
theorem dj_lat_1 : decode prog_16_method_2_code 1 = .ok (.aload_n 0, 1) := by decide +kernel
theorem dj_lat_2 : decode prog_16_method_2_code 2 = .ok (.arraylength, 1) := by decide +kernel
theorem dj_lat_3 : decode prog_16_method_2_code 3 = .ok (.invokestatic 9, 3) := by decide +kernel
theorem dj_lat_6 : decode prog_16_method_2_code 6 = .ok (.aload_n 0, 1) := by decide +kernel
theorem dj_lat_7 : decode prog_16_method_2_code 7 = .ok (.iload_n 1, 1) := by decide +kernel
theorem dj_lat_8 : decode prog_16_method_2_code 8 = .ok (.baload, 1) := by decide +kernel
theorem dj_lat_9 : decode prog_16_method_2_code 9 = .ok (.sipush 255, 3) := by decide +kernel
theorem dj_lat_12 : decode prog_16_method_2_code 12 = .ok (.iand, 1) := by decide +kernel
theorem dj_lat_13 : decode prog_16_method_2_code 13 = .ok (.i2c, 1) := by decide +kernel
theorem dj_lat_14 : decode prog_16_method_2_code 14 = .ok (.ireturn, 1) := by decide +kernel
set_option maxRecDepth 30000 in
theorem lj_5 : (Jvm.Cond.code ({ cls := "java/lang/StringLatin1", name := "charAt", desc := "([BI)C" } : Jvm.MethodName) prog_16_method_2_code (2 : Nat) (Option.some Jvm.ClassFile.FieldType.char)) ∈ lw_g := lw_at 583 rfl (by decide +kernel)
theorem lj_6 : (Jvm.Cond.static ({ cls := "java/lang/StringLatin1", name := "charAt", desc := "([BI)C" } : Jvm.MethodName)) ∈ lw_g := lw_at 582 (by decide +kernel) (by decide +kernel)
def yj_isl : MethodName := ⟨"java/lang/String", "isLatin1", "()Z"⟩
theorem hj_isl : yj_isl.cls ≠ "java/lang/invoke/MethodHandle" ∧ yj_isl.cls ≠ "java/lang/invoke/VarHandle" ∧ (parseMethodDescriptor yj_isl.desc).map (fun d => d.parameters.length) = some 0 := by decide +kernel
theorem dj_isl_0 : decode prog_15_method_154_code 0 = .ok (.getstatic 38, 3) := by decide +kernel
theorem dj_isl_3 : decode prog_15_method_154_code 3 = .ok (.ifCond .eq 14, 3) := by decide +kernel
theorem dj_isl_6 : decode prog_15_method_154_code 6 = .ok (.aload_n 0, 1) := by decide +kernel
theorem dj_isl_7 : decode prog_15_method_154_code 7 = .ok (.getfield 15, 3) := by decide +kernel
theorem dj_isl_10 : decode prog_15_method_154_code 10 = .ok (.ifCond .ne 7, 3) := by decide +kernel
theorem dj_isl_13 : decode prog_15_method_154_code 13 = .ok (.iconst 1, 1) := by decide +kernel
theorem dj_isl_14 : decode prog_15_method_154_code 14 = .ok (.goto 4, 3) := by decide +kernel
theorem dj_isl_18 : decode prog_15_method_154_code 18 = .ok (.ireturn, 1) := by decide +kernel
set_option maxRecDepth 30000 in
theorem lj_7 : (Jvm.Cond.code ({ cls := "java/lang/String", name := "isLatin1", desc := "()Z" } : Jvm.MethodName) prog_15_method_154_code (1 : Nat) (Option.some Jvm.ClassFile.FieldType.boolean)) ∈ lw_g := lw_at 580 rfl (by decide +kernel)
theorem lj_8 : (Jvm.Cond.instanceMethod ({ cls := "java/lang/String", name := "isLatin1", desc := "()Z" } : Jvm.MethodName)) ∈ lw_g := lw_at 578 (by decide +kernel) (by decide +kernel)
theorem lj_9 : (Jvm.Cond.selects "java/lang/String" ({ cls := "java/lang/String", name := "isLatin1", desc := "()Z" } : Jvm.MethodName) ({ cls := "java/lang/String", name := "isLatin1", desc := "()Z" } : Jvm.MethodName)) ∈ lw_g := lw_at 579 (by decide +kernel) (by decide +kernel)
def yj_cod : MethodName := ⟨"java/lang/String", "coder", "()B"⟩
theorem hj_cod : yj_cod.cls ≠ "java/lang/invoke/MethodHandle" ∧ yj_cod.cls ≠ "java/lang/invoke/VarHandle" ∧ (parseMethodDescriptor yj_cod.desc).map (fun d => d.parameters.length) = some 0 := by decide +kernel
theorem dj_cod_0 : decode prog_15_method_152_code 0 = .ok (.getstatic 38, 3) := by decide +kernel
theorem dj_cod_3 : decode prog_15_method_152_code 3 = .ok (.ifCond .eq 10, 3) := by decide +kernel
theorem dj_cod_6 : decode prog_15_method_152_code 6 = .ok (.aload_n 0, 1) := by decide +kernel
theorem dj_cod_7 : decode prog_15_method_152_code 7 = .ok (.getfield 15, 3) := by decide +kernel
theorem dj_cod_10 : decode prog_15_method_152_code 10 = .ok (.goto 4, 3) := by decide +kernel
theorem dj_cod_14 : decode prog_15_method_152_code 14 = .ok (.ireturn, 1) := by decide +kernel
set_option maxRecDepth 30000 in
theorem lj_10 : (Jvm.Cond.code ({ cls := "java/lang/String", name := "coder", desc := "()B" } : Jvm.MethodName) prog_15_method_152_code (1 : Nat) (Option.some Jvm.ClassFile.FieldType.byte)) ∈ lw_g := lw_at 570 rfl (by decide +kernel)
theorem lj_11 : (Jvm.Cond.instanceMethod ({ cls := "java/lang/String", name := "coder", desc := "()B" } : Jvm.MethodName)) ∈ lw_g := lw_at 568 (by decide +kernel) (by decide +kernel)
theorem lj_12 : (Jvm.Cond.selects "java/lang/String" ({ cls := "java/lang/String", name := "coder", desc := "()B" } : Jvm.MethodName) ({ cls := "java/lang/String", name := "coder", desc := "()B" } : Jvm.MethodName)) ∈ lw_g := lw_at 569 (by decide +kernel) (by decide +kernel)
def yj_len : MethodName := ⟨"java/lang/String", "length", "()I"⟩
theorem hj_len : yj_len.cls ≠ "java/lang/invoke/MethodHandle" ∧ yj_len.cls ≠ "java/lang/invoke/VarHandle" ∧ (parseMethodDescriptor yj_len.desc).map (fun d => d.parameters.length) = some 0 := by decide +kernel
theorem dj_len_0 : decode prog_15_method_54_code 0 = .ok (.aload_n 0, 1) := by decide +kernel
theorem dj_len_1 : decode prog_15_method_54_code 1 = .ok (.getfield 9, 3) := by decide +kernel
theorem dj_len_4 : decode prog_15_method_54_code 4 = .ok (.arraylength, 1) := by decide +kernel
theorem dj_len_5 : decode prog_15_method_54_code 5 = .ok (.aload_n 0, 1) := by decide +kernel
theorem dj_len_6 : decode prog_15_method_54_code 6 = .ok (.invokevirtual 335, 3) := by decide +kernel
theorem dj_len_9 : decode prog_15_method_54_code 9 = .ok (.ishr, 1) := by decide +kernel
theorem dj_len_10 : decode prog_15_method_54_code 10 = .ok (.ireturn, 1) := by decide +kernel
set_option maxRecDepth 30000 in
theorem lj_13 : (Jvm.Cond.code ({ cls := "java/lang/String", name := "length", desc := "()I" } : Jvm.MethodName) prog_15_method_54_code (1 : Nat) (Option.some Jvm.ClassFile.FieldType.int)) ∈ lw_g := lw_at 566 rfl (by decide +kernel)
theorem lj_14 : (Jvm.Cond.instanceMethod ({ cls := "java/lang/String", name := "length", desc := "()I" } : Jvm.MethodName)) ∈ lw_g := lw_at 564 (by decide +kernel) (by decide +kernel)
theorem lj_15 : (Jvm.Cond.selects "java/lang/String" ({ cls := "java/lang/String", name := "length", desc := "()I" } : Jvm.MethodName) ({ cls := "java/lang/String", name := "length", desc := "()I" } : Jvm.MethodName)) ∈ lw_g := lw_at 565 (by decide +kernel) (by decide +kernel)
def yj_emp : MethodName := ⟨"java/lang/String", "isEmpty", "()Z"⟩
theorem hj_emp : yj_emp.cls ≠ "java/lang/invoke/MethodHandle" ∧ yj_emp.cls ≠ "java/lang/invoke/VarHandle" ∧ (parseMethodDescriptor yj_emp.desc).map (fun d => d.parameters.length) = some 0 := by decide +kernel
theorem dj_emp_0 : decode prog_15_method_55_code 0 = .ok (.aload_n 0, 1) := by decide +kernel
theorem dj_emp_1 : decode prog_15_method_55_code 1 = .ok (.getfield 9, 3) := by decide +kernel
theorem dj_emp_4 : decode prog_15_method_55_code 4 = .ok (.arraylength, 1) := by decide +kernel
theorem dj_emp_5 : decode prog_15_method_55_code 5 = .ok (.ifCond .ne 7, 3) := by decide +kernel
theorem dj_emp_8 : decode prog_15_method_55_code 8 = .ok (.iconst 1, 1) := by decide +kernel
theorem dj_emp_9 : decode prog_15_method_55_code 9 = .ok (.goto 4, 3) := by decide +kernel
theorem dj_emp_12 : decode prog_15_method_55_code 12 = .ok (.iconst 0, 1) := by decide +kernel
theorem dj_emp_13 : decode prog_15_method_55_code 13 = .ok (.ireturn, 1) := by decide +kernel
set_option maxRecDepth 30000 in
theorem lj_16 : (Jvm.Cond.code ({ cls := "java/lang/String", name := "isEmpty", desc := "()Z" } : Jvm.MethodName) prog_15_method_55_code (1 : Nat) (Option.some Jvm.ClassFile.FieldType.boolean)) ∈ lw_g := lw_at 626 rfl (by decide +kernel)
theorem lj_17 : (Jvm.Cond.instanceMethod ({ cls := "java/lang/String", name := "isEmpty", desc := "()Z" } : Jvm.MethodName)) ∈ lw_g := lw_at 624 (by decide +kernel) (by decide +kernel)
theorem lj_18 : (Jvm.Cond.selects "java/lang/String" ({ cls := "java/lang/String", name := "isEmpty", desc := "()Z" } : Jvm.MethodName) ({ cls := "java/lang/String", name := "isEmpty", desc := "()Z" } : Jvm.MethodName)) ∈ lw_g := lw_at 625 (by decide +kernel) (by decide +kernel)
def yj_chr : MethodName := ⟨"java/lang/String", "charAt", "(I)C"⟩
theorem hj_chr : yj_chr.cls ≠ "java/lang/invoke/MethodHandle" ∧ yj_chr.cls ≠ "java/lang/invoke/VarHandle" ∧ (parseMethodDescriptor yj_chr.desc).map (fun d => d.parameters.length) = some 1 := by decide +kernel
theorem dj_chr_0 : decode prog_15_method_56_code 0 = .ok (.aload_n 0, 1) := by decide +kernel
theorem dj_chr_1 : decode prog_15_method_56_code 1 = .ok (.invokevirtual 492, 3) := by decide +kernel
theorem dj_chr_4 : decode prog_15_method_56_code 4 = .ok (.ifCond .eq 12, 3) := by decide +kernel
theorem dj_chr_7 : decode prog_15_method_56_code 7 = .ok (.aload_n 0, 1) := by decide +kernel
theorem dj_chr_8 : decode prog_15_method_56_code 8 = .ok (.getfield 9, 3) := by decide +kernel
theorem dj_chr_11 : decode prog_15_method_56_code 11 = .ok (.iload_n 1, 1) := by decide +kernel
theorem dj_chr_12 : decode prog_15_method_56_code 12 = .ok (.invokestatic 495, 3) := by decide +kernel
theorem dj_chr_15 : decode prog_15_method_56_code 15 = .ok (.ireturn, 1) := by decide +kernel
set_option maxRecDepth 30000 in
theorem lj_19 : (Jvm.Cond.code ({ cls := "java/lang/String", name := "charAt", desc := "(I)C" } : Jvm.MethodName) prog_15_method_56_code (2 : Nat) (Option.some Jvm.ClassFile.FieldType.char)) ∈ lw_g := lw_at 576 rfl (by decide +kernel)
theorem lj_20 : (Jvm.Cond.instanceMethod ({ cls := "java/lang/String", name := "charAt", desc := "(I)C" } : Jvm.MethodName)) ∈ lw_g := lw_at 574 (by decide +kernel) (by decide +kernel)
theorem lj_21 : (Jvm.Cond.selects "java/lang/String" ({ cls := "java/lang/String", name := "charAt", desc := "(I)C" } : Jvm.MethodName) ({ cls := "java/lang/String", name := "charAt", desc := "(I)C" } : Jvm.MethodName)) ∈ lw_g := lw_at 575 (by decide +kernel) (by decide +kernel)
theorem lj_22 : (Jvm.Cond.initialized "java/lang/String") ∈ lw_g := lw_at 13 (by decide +kernel) (by decide +kernel)
theorem lj_23 : (Jvm.Cond.initialized "java/lang/StringLatin1") ∈ lw_g := lw_at 14 (by decide +kernel) (by decide +kernel)
theorem lj_24 : (Jvm.Cond.initialized "jdk/internal/util/Preconditions") ∈ lw_g := lw_at 15 (by decide +kernel) (by decide +kernel)
theorem lj_25 : (Jvm.Cond.methodLink "java/lang/String" (1059 : Nat) ({ cls := "jdk/internal/util/Preconditions", name := "checkIndex", desc := "(IILjava/util/function/BiFunction;)I" } : Jvm.MethodName)) ∈ lw_g := lw_at 589 (by decide +kernel) (by decide +kernel)
theorem lj_26 : (Jvm.Cond.methodLink "java/lang/StringLatin1" (9 : Nat) ({ cls := "java/lang/String", name := "checkIndex", desc := "(II)V" } : Jvm.MethodName)) ∈ lw_g := lw_at 584 (by decide +kernel) (by decide +kernel)
theorem lj_27 : (Jvm.Cond.methodLink "java/lang/String" (495 : Nat) ({ cls := "java/lang/StringLatin1", name := "charAt", desc := "([BI)C" } : Jvm.MethodName)) ∈ lw_g := lw_at 581 (by decide +kernel) (by decide +kernel)
theorem lj_28 : (Jvm.Cond.methodLink "java/lang/String" (492 : Nat) ({ cls := "java/lang/String", name := "isLatin1", desc := "()Z" } : Jvm.MethodName)) ∈ lw_g := lw_at 577 (by decide +kernel) (by decide +kernel)
theorem lj_29 : (Jvm.Cond.methodLink "java/lang/String" (335 : Nat) ({ cls := "java/lang/String", name := "coder", desc := "()B" } : Jvm.MethodName)) ∈ lw_g := lw_at 567 (by decide +kernel) (by decide +kernel)
theorem lj_30 : (Jvm.Cond.fieldLink "java/lang/String" (9 : Nat) "java/lang/String" "value" "[B") ∈ lw_g := lw_at 1607 (by decide +kernel) (by decide +kernel)
theorem lj_31 : (Jvm.Cond.fieldLink "java/lang/String" (15 : Nat) "java/lang/String" "coder" "B") ∈ lw_g := lw_at 1608 (by decide +kernel) (by decide +kernel)
theorem lj_32 : (Jvm.Cond.fieldLink "java/lang/String" (38 : Nat) "java/lang/String" "COMPACT_STRINGS" "Z") ∈ lw_g := lw_at 571 (by decide +kernel) (by decide +kernel)
theorem lj_33 : (Jvm.Cond.fieldLink "java/lang/String" (1053 : Nat) "jdk/internal/util/Preconditions" "SIOOBE_FORMATTER" "Ljava/util/function/BiFunction;") ∈ lw_g := lw_at 587 (by decide +kernel) (by decide +kernel)
def sx_tl (e : Int32) : Int32 := Int32.ofNat (kx_len.getD e.toNatClampNeg 0)
def sx_te (e : Int32) : Int32 := if sx_tl e = 0 then 1 else 0
def sx_tc (e i : Int32) : Int32 := ((((kx_byt.getD e.toNatClampNeg []).getD i.toNatClampNeg 0) &&& 255).toUInt32 % 65536).toInt32
theorem sx_tn (m : Nat) : kx_len.getD m 0 < 2 ^ 31 := by
  match m with
  | 0 => decide
  | 1 => decide
  | 2 => decide
  | 3 => decide
  | 4 => decide
  | 5 => decide
  | m + 6 => simp [kx_len]
abbrev rj_ck3 : Room := { frames := 0, cells := 0, slots := 0, locals := 0 }
abbrev rj_ck : Room := { frames := 1, cells := 0, slots := 0, locals := 22 }
abbrev rj_lat : Room := { frames := 2, cells := 0, slots := 0, locals := 43 }
abbrev rj_chr : Room := { frames := 3, cells := 0, slots := 0, locals := 64 }
abbrev rj_len : Room := { frames := 1, cells := 0, slots := 0, locals := 20 }
theorem sx_cret {X : sx_T} {K : sx_K} {cc : ByteArray} {nL : Nat} {own : String} {rm : Room} {l : Launch} {pc : Nat} {lv : List (Nat × Value)} {σ : sx_M} {τ : sx_L} {ty : FieldType} (hX : sx_C X K cc nL own (some ty) rm l) {Q : Int32 → sx_M → sx_L → Prop} (hE : sx_E X K (sx_Qi K Q)) {v : Int32} (hb : narrow ty (.int v) = .int v) (hq : Q v σ τ) (hd : decode cc pc = .ok (.ireturn, 1)) : sx_G X K nL pc lv [.int v] (sx_H K σ τ) := by
  intro H locs ls hP hS hl
  show W _ _ _ _ _ _ _ _ _ _ _ _ _ _ (sx_q X) _
  rw [hE]
  exact W.zret hX.1 hX.2.1 hX.2.2.1 hb (fun t ht hW => ⟨⟨v, (σ, τ), rfl, hq, by show sx_H K σ τ t.heap; rw [ht]; exact hP⟩, hS.F ht⟩) hS.2.2 hd hX.2.2.2.2.2.2.1.1
theorem sx_vcall {X : sx_T} {K : sx_K} {cc : ByteArray} {nL : Nat} {own : String} {ret : Option FieldType} {rm : Room} {l : Launch} {pc pc2 : Nat} {lv : List (Nat × Value)} {st : List Value} {σ : sx_M} {τ : sx_L} {y : MethodName} {cc2 : ByteArray} {maxL2 index i : Nat} {ret2 : Option FieldType} {rm2 : Room} {As st0 : List Value} {Q : Int32 → sx_M → sx_L → Prop} (hX : sx_C X K cc nL own ret rm l) (hM : Met l y (sx_wd y cc2 maxL2 ret2) rm2 (sx_Pc K (.ref (K.2.2.1 40 i 0) :: As) σ τ) (sx_Qi K Q) 0 0 (sx_A K)) (hi : i < 6) (hinst : Cond.instanceMethod y ∈ lw_g) (hsel : Cond.selects "java/lang/String" y y ∈ lw_g) (hy : y.cls ≠ "java/lang/invoke/MethodHandle" ∧ y.cls ≠ "java/lang/invoke/VarHandle" ∧ (parseMethodDescriptor y.desc).map (fun d => d.parameters.length) = some As.length) (hcode : Cond.code y cc2 maxL2 ret2 ∈ lw_g) (hini : Cond.initialized y.cls ∈ lw_g) (hlink : Cond.methodLink own index y ∈ lw_g) (hr : rm2.cells = 0 ∧ rm2.slots = 0) (hR : rm2.frames + 1 ≤ rm.frames ∧ 8 + (maxL2 + 11) + rm2.locals ≤ rm.locals) (hst : (st.map fun v => v.category).sum ≤ 8) (hs : st0 = As.reverse ++ .ref (K.2.2.1 40 i 0) :: st) (hd : decode cc pc = .ok (.invokevirtual index, 3)) (hp : pc + 3 = pc2) (kk : ∀ (r : Int32) (σ2 : sx_M) (τ2 : sx_L), Q r σ2 τ2 → sx_G X K nL pc2 lv (.int r :: st) (sx_H K σ2 τ2)) : sx_G X K nL pc lv st0 (sx_H K σ τ) := by
  subst hp
  subst hs
  obtain ⟨rfl, hX2⟩ : sx_l X = l ∧ True := ⟨hX.2.2.2.2.2.2.2.2.1, trivial⟩
  intro H locs ls hP hS hl
  exact va_calli (va_runV (As := As) (rest := st) ⟨hX.1, hX.2.1, hX.2.2.2.1, hX.2.2.2.2.1, hX.2.2.2.2.2.1⟩ hM ⟨callB_of As.length hX.2.2.2.2.2.1 (sx_wg hcode) rfl hr.1 hr.2 (hX.2.2.2.2.2.1 _ hini) (hX.2.2.2.2.2.1 _ hlink) hy (by rw [hX.2.2.2.2.2.2.2.1]; exact hR), hX.2.2.2.2.2.1 _ hinst, hX.2.2.2.2.2.1 _ hsel⟩ ⟨sx_blind, vk_recv hX.2.2.2.2.2.2.2.2.2.2.2.1.1 hi hS, fun U hU hW => sx_pre hX.2.2.2.2.2.2.2.2.2 hP hS hU hW⟩ rfl rfl hl.1 rfl (lv_room hst) hd hX.2.2.2.2.2.2.1.2) hS (fun q _ h => h) (fun q h => h) (fun r u t H1 locs1 ht hvm hw hB hz1 hk1 hS1 => kk r u.1 u.2 hw H1 locs1 ls (by have h : sx_H K u.1 u.2 t.heap := hB; rw [ht] at h; exact h) hS1 hl)
set_option maxRecDepth 100000 in
theorem cj_ck3N {l : Launch} {K : sx_K} (i n : Int32) (σ : sx_M) (τ : sx_L) (h0 : ¬ i < 0) (h1 : i < n) : Met l yj_ck3 (sx_wd yj_ck3 prog_19_method_11_code 3 (some .int)) rj_ck3 (sx_Pc K [.int i, .int n, .null] σ τ) (sx_Qi K (fun r σ2 τ2 => r = i ∧ σ2 = σ ∧ τ2 = τ)) 0 0 (sx_A K) := by
  refine sx_met (by decide) (Nat.le_of_ble_eq_true rfl) (fun X hX hE => ?_)
  replace hX : sx_C X K prog_19_method_11_code 3 "jdk/internal/util/Preconditions" (some .int) rj_ck3 l := hX
  show sx_G X K 3 0 [(0, .int i), (1, .int n), (2, .null)] [] (sx_H K σ τ)
  refine sx_iload_n (pc2 := 1) hX 0 dj_ck3_0 rfl rfl rfl ?_
  refine sx_if_lt (tgt := 9) (pc2 := 4) hX dj_ck3_1 (by decide) rfl (fun hc => absurd hc h0) (fun hc => ?_)
  refine sx_iload_n (pc2 := 5) hX 0 dj_ck3_4 rfl rfl rfl ?_
  refine sx_iload_n (pc2 := 6) hX 1 dj_ck3_5 rfl rfl rfl ?_
  refine sx_icmp_lt (tgt := 16) (pc2 := 9) hX dj_ck3_6 (by decide) rfl (fun hc => ?_) (fun hc => absurd h1 hc)
  refine sx_iload_n (pc2 := 17) hX 0 dj_ck3_16 rfl rfl rfl ?_
  exact sx_iret hX hE ⟨rfl, rfl, rfl⟩ dj_ck3_17
set_option maxRecDepth 100000 in
theorem cj_ck3R {l : Launch} {K : sx_K} (i n : Int32) (t : Nat) (σ : sx_M) (τ : sx_L) (h0 : ¬ i < 0) (h1 : i < n) : Met l yj_ck3 (sx_wd yj_ck3 prog_19_method_11_code 3 (some .int)) rj_ck3 (sx_Pc K [.int i, .int n, .ref t] σ τ) (sx_Qi K (fun r σ2 τ2 => r = i ∧ σ2 = σ ∧ τ2 = τ)) 0 0 (sx_A K) := by
  refine sx_met (by decide) (Nat.le_of_ble_eq_true rfl) (fun X hX hE => ?_)
  replace hX : sx_C X K prog_19_method_11_code 3 "jdk/internal/util/Preconditions" (some .int) rj_ck3 l := hX
  show sx_G X K 3 0 [(0, .int i), (1, .int n), (2, .ref t)] [] (sx_H K σ τ)
  refine sx_iload_n (pc2 := 1) hX 0 dj_ck3_0 rfl rfl rfl ?_
  refine sx_if_lt (tgt := 9) (pc2 := 4) hX dj_ck3_1 (by decide) rfl (fun hc => absurd hc h0) (fun hc => ?_)
  refine sx_iload_n (pc2 := 5) hX 0 dj_ck3_4 rfl rfl rfl ?_
  refine sx_iload_n (pc2 := 6) hX 1 dj_ck3_5 rfl rfl rfl ?_
  refine sx_icmp_lt (tgt := 16) (pc2 := 9) hX dj_ck3_6 (by decide) rfl (fun hc => ?_) (fun hc => absurd h1 hc)
  refine sx_iload_n (pc2 := 17) hX 0 dj_ck3_16 rfl rfl rfl ?_
  exact sx_iret hX hE ⟨rfl, rfl, rfl⟩ dj_ck3_17
set_option maxRecDepth 100000 in
theorem cj_ck {l : Launch} {K : sx_K} (i n : Int32) (σ : sx_M) (τ : sx_L) (h0 : ¬ i < 0) (h1 : i < n) : Met l yj_ck (sx_wd yj_ck prog_15_method_155_code 2 none) rj_ck (sx_Pc K [.int i, .int n] σ τ) (sx_Qv K (fun σ2 τ2 => σ2 = σ ∧ τ2 = τ)) 0 0 (sx_A K) := by
  refine sx_met (by decide) (Nat.le_of_ble_eq_true rfl) (fun X hX hE => ?_)
  replace hX : sx_C X K prog_15_method_155_code 2 "java/lang/String" none rj_ck l := hX
  show sx_G X K 2 0 [(0, .int i), (1, .int n)] [] (sx_H K σ τ)
  refine sx_iload_n (pc2 := 1) hX 0 dj_ck_0 rfl rfl rfl ?_
  refine sx_iload_n (pc2 := 2) hX 1 dj_ck_1 rfl rfl rfl ?_
  rcases hX.2.2.2.2.2.2.2.2.2.2.2.1.2.2.2.2.2 with hz | ⟨t, hz⟩
  ·
    refine sx_gets (pc2 := 5) hX hz lj_33 dj_ck_2 rfl ?_
    refine sx_callSi (As := [.int i, .int n, .null]) (pc2 := 8) hX (cj_ck3N i n σ τ h0 h1) lj_2 hj_ck3 lj_1 lj_24 lj_25 ⟨rfl, rfl⟩ ⟨Nat.le_of_ble_eq_true rfl, Nat.le_of_ble_eq_true rfl⟩ (Nat.le_of_ble_eq_true rfl) rfl dj_ck_5 rfl (fun r σ2 τ2 h => ?_)
    obtain ⟨rfl, rfl, rfl⟩ := h
    refine sx_pop (pc2 := 9) hX dj_ck_8 rfl rfl ?_
    exact sx_vret hX hE ⟨rfl, rfl⟩ dj_ck_9
  ·
    refine sx_gets (pc2 := 5) hX hz lj_33 dj_ck_2 rfl ?_
    refine sx_callSi (As := [.int i, .int n, .ref t]) (pc2 := 8) hX (cj_ck3R i n t σ τ h0 h1) lj_2 hj_ck3 lj_1 lj_24 lj_25 ⟨rfl, rfl⟩ ⟨Nat.le_of_ble_eq_true rfl, Nat.le_of_ble_eq_true rfl⟩ (Nat.le_of_ble_eq_true rfl) rfl dj_ck_5 rfl (fun r σ2 τ2 h => ?_)
    obtain ⟨rfl, rfl, rfl⟩ := h
    refine sx_pop (pc2 := 9) hX dj_ck_8 rfl rfl ?_
    exact sx_vret hX hE ⟨rfl, rfl⟩ dj_ck_9
set_option maxRecDepth 100000 in
theorem cj_lat {l : Launch} {K : sx_K} (e i : Int32) (σ : sx_M) (τ : sx_L) (he : vp_in e 6) (hi : vp_in i (kx_len.getD e.toNatClampNeg 0)) : Met l yj_lat (sx_wd yj_lat prog_16_method_2_code 2 (some .char)) rj_lat (sx_Pc K [.ref (K.2.2.1 41 e.toNatClampNeg 0), .int i] σ τ) (sx_Qi K (fun r σ2 τ2 => r = sx_tc e i ∧ σ2 = σ ∧ τ2 = τ)) 0 0 (sx_A K) := by
  refine sx_met (by decide) (Nat.le_of_ble_eq_true rfl) (fun X hX hE => ?_)
  replace hX : sx_C X K prog_16_method_2_code 2 "java/lang/StringLatin1" (some .char) rj_lat l := hX
  show sx_G X K 2 0 [(0, .ref (K.2.2.1 41 e.toNatClampNeg 0)), (1, .int i)] [] (sx_H K σ τ)
  have hT := (hX.2.2.2.2.2.2.2.2.2.2.2.1.1.1 e.toNatClampNeg (sx_lt he)).2.2.2
  obtain ⟨j, hj, hij⟩ := vp_in_of hi (sx_tn _)
  have h1 : i < sx_tl e := by rw [hij]; exact nI_lt hj (sx_tn _)
  refine sx_iload_n (pc2 := 1) hX 1 dj_lat_0 rfl rfl rfl ?_
  refine sx_aload_n (pc2 := 2) hX 0 dj_lat_1 rfl rfl rfl ?_
  refine sx_stlen (v := sx_tl e) (pc2 := 3) hX hT rfl dj_lat_2 rfl ?_
  refine sx_callSv (As := [.int i, .int (sx_tl e)]) (pc2 := 6) hX (cj_ck i (sx_tl e) σ τ (fun q => hi (Or.inl q)) h1) lj_4 hj_ck lj_3 lj_22 lj_26 ⟨rfl, rfl⟩ ⟨Nat.le_of_ble_eq_true rfl, Nat.le_of_ble_eq_true rfl⟩ (Nat.le_of_ble_eq_true rfl) rfl dj_lat_3 rfl (fun σ2 τ2 h => ?_)
  obtain ⟨rfl, rfl⟩ := h
  refine sx_aload_n (pc2 := 7) hX 0 dj_lat_6 rfl rfl rfl ?_
  refine sx_iload_n (pc2 := 8) hX 1 dj_lat_7 rfl rfl rfl ?_
  refine sx_stb (pc2 := 9) hX hT hi dj_lat_8 rfl ?_
  refine sx_sipush (v := 255) (pc2 := 12) hX dj_lat_9 (by decide) rfl ?_
  refine sx_iand (pc2 := 13) hX dj_lat_12 rfl ?_
  refine sx_i2c (pc2 := 14) hX dj_lat_13 rfl ?_
  exact sx_cret hX hE (pk_nc _) ⟨rfl, rfl, rfl⟩ dj_lat_14
set_option maxRecDepth 100000 in
theorem cj_isl {l : Launch} {K : sx_K} (e : Int32) (σ : sx_M) (τ : sx_L) (he : vp_in e 6) : Met l yj_isl (sx_wd yj_isl prog_15_method_154_code 1 (some .boolean)) rj_ck3 (sx_Pc K [.ref (K.2.2.1 40 e.toNatClampNeg 0)] σ τ) (sx_Qi K (fun r σ2 τ2 => r = 1 ∧ σ2 = σ ∧ τ2 = τ)) 0 0 (sx_A K) := by
  refine sx_met (by decide) (Nat.le_of_ble_eq_true rfl) (fun X hX hE => ?_)
  replace hX : sx_C X K prog_15_method_154_code 1 "java/lang/String" (some .boolean) rj_ck3 l := hX
  show sx_G X K 1 0 [(0, .ref (K.2.2.1 40 e.toNatClampNeg 0))] [] (sx_H K σ τ)
  have hT := (hX.2.2.2.2.2.2.2.2.2.2.2.1.1.1 e.toNatClampNeg (sx_lt he)).2.1
  refine sx_gets (pc2 := 3) hX hX.2.2.2.2.2.2.2.2.2.2.2.1.2.2.2.2.1 lj_32 dj_isl_0 rfl ?_
  refine sx_if_eq (tgt := 17) (pc2 := 6) hX dj_isl_3 (by decide) rfl (fun hc => absurd hc (by decide)) (fun hc => ?_)
  refine sx_aload_n (pc2 := 7) hX 0 dj_isl_6 rfl rfl rfl ?_
  refine sx_gof (pc2 := 10) hX hT lj_31 dj_isl_7 rfl ?_
  refine sx_if_ne (tgt := 17) (pc2 := 13) hX dj_isl_10 (by decide) rfl (fun hc => absurd rfl hc) (fun hc => ?_)
  refine sx_iconst (v := 1) (pc2 := 14) hX dj_isl_13 (by decide) rfl ?_
  refine sx_goto (tgt := 18) hX dj_isl_14 (by decide) ?_
  exact sx_zret hX hE (by decide) ⟨rfl, rfl, rfl⟩ dj_isl_18
set_option maxRecDepth 100000 in
theorem cj_cod {l : Launch} {K : sx_K} (e : Int32) (σ : sx_M) (τ : sx_L) (he : vp_in e 6) : Met l yj_cod (sx_wd yj_cod prog_15_method_152_code 1 (some .byte)) rj_ck3 (sx_Pc K [.ref (K.2.2.1 40 e.toNatClampNeg 0)] σ τ) (sx_Qi K (fun r σ2 τ2 => r = 0 ∧ σ2 = σ ∧ τ2 = τ)) 0 0 (sx_A K) := by
  refine sx_met (by decide) (Nat.le_of_ble_eq_true rfl) (fun X hX hE => ?_)
  replace hX : sx_C X K prog_15_method_152_code 1 "java/lang/String" (some .byte) rj_ck3 l := hX
  show sx_G X K 1 0 [(0, .ref (K.2.2.1 40 e.toNatClampNeg 0))] [] (sx_H K σ τ)
  have hT := (hX.2.2.2.2.2.2.2.2.2.2.2.1.1.1 e.toNatClampNeg (sx_lt he)).2.1
  refine sx_gets (pc2 := 3) hX hX.2.2.2.2.2.2.2.2.2.2.2.1.2.2.2.2.1 lj_32 dj_cod_0 rfl ?_
  refine sx_if_eq (tgt := 13) (pc2 := 6) hX dj_cod_3 (by decide) rfl (fun hc => absurd hc (by decide)) (fun hc => ?_)
  refine sx_aload_n (pc2 := 7) hX 0 dj_cod_6 rfl rfl rfl ?_
  refine sx_gof (pc2 := 10) hX hT lj_31 dj_cod_7 rfl ?_
  refine sx_goto (tgt := 14) hX dj_cod_10 (by decide) ?_
  exact sx_cret hX hE rfl ⟨rfl, rfl, rfl⟩ dj_cod_14
set_option maxRecDepth 100000 in
theorem cj_len {l : Launch} {K : sx_K} (e : Int32) (σ : sx_M) (τ : sx_L) (he : vp_in e 6) : Met l yj_len (sx_wd yj_len prog_15_method_54_code 1 (some .int)) rj_len (sx_Pc K [.ref (K.2.2.1 40 e.toNatClampNeg 0)] σ τ) (sx_Qi K (fun r σ2 τ2 => r = sx_tl e ∧ σ2 = σ ∧ τ2 = τ)) 0 0 (sx_A K) := by
  refine sx_met (by decide) (Nat.le_of_ble_eq_true rfl) (fun X hX hE => ?_)
  replace hX : sx_C X K prog_15_method_54_code 1 "java/lang/String" (some .int) rj_len l := hX
  show sx_G X K 1 0 [(0, .ref (K.2.2.1 40 e.toNatClampNeg 0))] [] (sx_H K σ τ)
  have hT := (hX.2.2.2.2.2.2.2.2.2.2.2.1.1.1 e.toNatClampNeg (sx_lt he)).2.2
  refine sx_aload_n (pc2 := 1) hX 0 dj_len_0 rfl rfl rfl ?_
  refine sx_gof (pc2 := 4) hX hT.1 lj_30 dj_len_1 rfl ?_
  refine sx_stlen (v := sx_tl e) (pc2 := 5) hX hT.2 rfl dj_len_4 rfl ?_
  refine sx_aload_n (pc2 := 6) hX 0 dj_len_5 rfl rfl rfl ?_
  refine sx_vcall (As := []) (pc2 := 9) hX (cj_cod e σ τ he) (sx_lt he) lj_11 lj_12 hj_cod lj_10 lj_22 lj_29 ⟨rfl, rfl⟩ ⟨Nat.le_of_ble_eq_true rfl, Nat.le_of_ble_eq_true rfl⟩ (Nat.le_of_ble_eq_true rfl) rfl dj_len_6 rfl (fun r σ2 τ2 h => ?_)
  obtain ⟨rfl, rfl, rfl⟩ := h
  refine sx_ishr (pc2 := 10) hX dj_len_9 rfl ?_
  exact sx_iret hX hE ⟨sb_shr0 _, rfl, rfl⟩ dj_len_10
set_option maxRecDepth 100000 in
theorem cj_emp {l : Launch} {K : sx_K} (e : Int32) (σ : sx_M) (τ : sx_L) (he : vp_in e 6) : Met l yj_emp (sx_wd yj_emp prog_15_method_55_code 1 (some .boolean)) rj_ck3 (sx_Pc K [.ref (K.2.2.1 40 e.toNatClampNeg 0)] σ τ) (sx_Qi K (fun r σ2 τ2 => r = sx_te e ∧ σ2 = σ ∧ τ2 = τ)) 0 0 (sx_A K) := by
  refine sx_met (by decide) (Nat.le_of_ble_eq_true rfl) (fun X hX hE => ?_)
  replace hX : sx_C X K prog_15_method_55_code 1 "java/lang/String" (some .boolean) rj_ck3 l := hX
  show sx_G X K 1 0 [(0, .ref (K.2.2.1 40 e.toNatClampNeg 0))] [] (sx_H K σ τ)
  have hT := (hX.2.2.2.2.2.2.2.2.2.2.2.1.1.1 e.toNatClampNeg (sx_lt he)).2.2
  refine sx_aload_n (pc2 := 1) hX 0 dj_emp_0 rfl rfl rfl ?_
  refine sx_gof (pc2 := 4) hX hT.1 lj_30 dj_emp_1 rfl ?_
  refine sx_stlen (v := sx_tl e) (pc2 := 5) hX hT.2 rfl dj_emp_4 rfl ?_
  refine sx_if_ne (tgt := 12) (pc2 := 8) hX dj_emp_5 (by decide) rfl (fun hc => ?_) (fun hc => ?_)
  · refine sx_iconst (v := 0) (pc2 := 13) hX dj_emp_12 (by decide) rfl ?_
    exact sx_zret hX hE (by decide) ⟨(if_neg hc).symm, rfl, rfl⟩ dj_emp_13
  · refine sx_iconst (v := 1) (pc2 := 9) hX dj_emp_8 (by decide) rfl ?_
    refine sx_goto (tgt := 13) hX dj_emp_9 (by decide) ?_
    exact sx_zret hX hE (by decide) ⟨(if_pos hc).symm, rfl, rfl⟩ dj_emp_13
set_option maxRecDepth 100000 in
theorem cj_chr {l : Launch} {K : sx_K} (e i : Int32) (σ : sx_M) (τ : sx_L) (he : vp_in e 6) (hi : vp_in i (kx_len.getD e.toNatClampNeg 0)) : Met l yj_chr (sx_wd yj_chr prog_15_method_56_code 2 (some .char)) rj_chr (sx_Pc K [.ref (K.2.2.1 40 e.toNatClampNeg 0), .int i] σ τ) (sx_Qi K (fun r σ2 τ2 => r = sx_tc e i ∧ σ2 = σ ∧ τ2 = τ)) 0 0 (sx_A K) := by
  refine sx_met (by decide) (Nat.le_of_ble_eq_true rfl) (fun X hX hE => ?_)
  replace hX : sx_C X K prog_15_method_56_code 2 "java/lang/String" (some .char) rj_chr l := hX
  show sx_G X K 2 0 [(0, .ref (K.2.2.1 40 e.toNatClampNeg 0)), (1, .int i)] [] (sx_H K σ τ)
  have hT := (hX.2.2.2.2.2.2.2.2.2.2.2.1.1.1 e.toNatClampNeg (sx_lt he)).2.2
  refine sx_aload_n (pc2 := 1) hX 0 dj_chr_0 rfl rfl rfl ?_
  refine sx_vcall (As := []) (pc2 := 4) hX (cj_isl e σ τ he) (sx_lt he) lj_8 lj_9 hj_isl lj_7 lj_22 lj_28 ⟨rfl, rfl⟩ ⟨Nat.le_of_ble_eq_true rfl, Nat.le_of_ble_eq_true rfl⟩ (Nat.le_of_ble_eq_true rfl) rfl dj_chr_1 rfl (fun r σ2 τ2 h => ?_)
  obtain ⟨rfl, rfl, rfl⟩ := h
  refine sx_if_eq (tgt := 16) (pc2 := 7) hX dj_chr_4 (by decide) rfl (fun hc => absurd hc (by decide)) (fun hc => ?_)
  refine sx_aload_n (pc2 := 8) hX 0 dj_chr_7 rfl rfl rfl ?_
  refine sx_gof (pc2 := 11) hX hT.1 lj_30 dj_chr_8 rfl ?_
  refine sx_iload_n (pc2 := 12) hX 1 dj_chr_11 rfl rfl rfl ?_
  refine sx_callSi (As := [.ref (K.2.2.1 41 e.toNatClampNeg 0), .int i]) (pc2 := 15) hX (cj_lat e i σ2 τ2 he hi) lj_6 hj_lat lj_5 lj_23 lj_27 ⟨rfl, rfl⟩ ⟨Nat.le_of_ble_eq_true rfl, Nat.le_of_ble_eq_true rfl⟩ (Nat.le_of_ble_eq_true rfl) rfl dj_chr_12 rfl (fun r σ2 τ2 h => ?_)
  obtain ⟨rfl, rfl, rfl⟩ := h
  exact sx_cret hX hE (pk_nc _) ⟨rfl, rfl, rfl⟩ dj_chr_15
theorem sx_slen {X : sx_T} {K : sx_K} {cc : ByteArray} {nL : Nat} {own : String} {ret : Option FieldType} {rm : Room} {l : Launch} {pc pc2 index : Nat} {lv : List (Nat × Value)} {st : List Value} {σ : sx_M} {τ : sx_L} {e : Int32} (hX : sx_C X K cc nL own ret rm l) (he : vp_in e 6) (hlink : Cond.methodLink own index yj_len ∈ lw_g) (hR : rj_len.frames + 1 ≤ rm.frames ∧ 8 + (1 + 11) + rj_len.locals ≤ rm.locals) (hst : (st.map fun v => v.category).sum ≤ 8) (hd : decode cc pc = .ok (.invokevirtual index, 3)) (hp : pc + 3 = pc2) (k : sx_G X K nL pc2 lv (.int (sx_tl e) :: st) (sx_H K σ τ)) : sx_G X K nL pc lv (.ref (K.2.2.1 40 e.toNatClampNeg 0) :: st) (sx_H K σ τ) :=
  sx_vcall (As := []) hX (cj_len e σ τ he) (sx_lt he) lj_14 lj_15 hj_len lj_13 lj_22 hlink ⟨rfl, rfl⟩ hR hst rfl hd hp (fun r σ2 τ2 h => by obtain ⟨rfl, rfl, rfl⟩ := h; exact k)
theorem sx_sempty {X : sx_T} {K : sx_K} {cc : ByteArray} {nL : Nat} {own : String} {ret : Option FieldType} {rm : Room} {l : Launch} {pc pc2 index : Nat} {lv : List (Nat × Value)} {st : List Value} {σ : sx_M} {τ : sx_L} {e : Int32} (hX : sx_C X K cc nL own ret rm l) (he : vp_in e 6) (hlink : Cond.methodLink own index yj_emp ∈ lw_g) (hR : rj_ck3.frames + 1 ≤ rm.frames ∧ 8 + (1 + 11) + rj_ck3.locals ≤ rm.locals) (hst : (st.map fun v => v.category).sum ≤ 8) (hd : decode cc pc = .ok (.invokevirtual index, 3)) (hp : pc + 3 = pc2) (k : sx_G X K nL pc2 lv (.int (sx_te e) :: st) (sx_H K σ τ)) : sx_G X K nL pc lv (.ref (K.2.2.1 40 e.toNatClampNeg 0) :: st) (sx_H K σ τ) :=
  sx_vcall (As := []) hX (cj_emp e σ τ he) (sx_lt he) lj_17 lj_18 hj_emp lj_16 lj_22 hlink ⟨rfl, rfl⟩ hR hst rfl hd hp (fun r σ2 τ2 h => by obtain ⟨rfl, rfl, rfl⟩ := h; exact k)
theorem sx_charAt {X : sx_T} {K : sx_K} {cc : ByteArray} {nL : Nat} {own : String} {ret : Option FieldType} {rm : Room} {l : Launch} {pc pc2 index : Nat} {lv : List (Nat × Value)} {st : List Value} {σ : sx_M} {τ : sx_L} {e : Int32} {i : Int32} (hX : sx_C X K cc nL own ret rm l) (he : vp_in e 6) (hi : vp_in i (kx_len.getD e.toNatClampNeg 0)) (hlink : Cond.methodLink own index yj_chr ∈ lw_g) (hR : rj_chr.frames + 1 ≤ rm.frames ∧ 8 + (2 + 11) + rj_chr.locals ≤ rm.locals) (hst : (st.map fun v => v.category).sum ≤ 8) (hd : decode cc pc = .ok (.invokevirtual index, 3)) (hp : pc + 3 = pc2) (k : sx_G X K nL pc2 lv (.int (sx_tc e i) :: st) (sx_H K σ τ)) : sx_G X K nL pc lv (.int i :: .ref (K.2.2.1 40 e.toNatClampNeg 0) :: st) (sx_H K σ τ) :=
  sx_vcall (As := [.int i]) hX (cj_chr e i σ τ he hi) (sx_lt he) lj_20 lj_21 hj_chr lj_19 lj_22 hlink ⟨rfl, rfl⟩ hR hst rfl hd hp (fun r σ2 τ2 h => by obtain ⟨rfl, rfl, rfl⟩ := h; exact k)
