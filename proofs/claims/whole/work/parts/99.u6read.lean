abbrev rd_g : Cond := Jvm.Cond.and given_1 narrow_1
def rd_i : List Nat := [31, 95, 97, 99, 101, 121]
def rd_t (i : Nat) : Term := .string "SensorTree$Tokens" (rd_i.getD i 0)
def rd_chk : Bool := (List.range 6).all fun i => decide (Cond.exactly (rd_t i) "java/lang/String" ∈ flatC rd_g) && decide (Cond.eq (.field (rd_t i) "java/lang/String" "coder" "B") (.int 0) ∈ flatC rd_g) && decide (Cond.arrayOf (.field (rd_t i) "java/lang/String" "value" "[B") .byte ∈ flatC rd_g) && decide (Cond.eq (.length (.field (rd_t i) "java/lang/String" "value" "[B")) (.int (Int32.ofNat (kx_len.getD i 0))) ∈ flatC rd_g) && ((List.range (kx_len.getD i 0)).all fun j => decide (Cond.eq (.elem (.field (rd_t i) "java/lang/String" "value" "[B") (.int (Int32.ofNat j))) (.int ((kx_byt.getD i []).getD j 0)) ∈ flatC rd_g)) && ((List.range 6).all fun j => decide (i = j) || decide (Cond.not (Cond.eq (rd_t i) (rd_t j)) ∈ flatC rd_g) || decide (Cond.not (Cond.eq (rd_t j) (rd_t i)) ∈ flatC rd_g))
set_option maxRecDepth 100000 in
theorem rd_ok : rd_chk = true := by decide +kernel
/-- READ: the texts -/
theorem rd_str {args : Array Value} {s : State} {A : Nat → Prop} (hg : rd_g.before args s = true) (hA : ∀ a : Nat, a < s.heap.size → ¬ A a) : ∃ adK adV : Nat → Nat, vk_S 6 kx_len kx_byt adK adV A s s.heap ∧ ∀ i : Nat, i < 6 → (rd_t i).eval args s none [] s = some (.ref (adK i)) := by
  have hs := flat_of_before _ hg
  have f := fun (i : Nat) (hi : i < 6) => List.all_eq_true.mp rd_ok i (List.mem_range.mpr hi)
  simp only [Bool.and_eq_true, decide_eq_true_eq] at f
  refine vk_Sof (tm := rd_t) (fun i hi => ?_) (fun i hi => hs _ (f i hi).1.1.1.1.1) (fun i hi => hs _ (f i hi).1.1.1.1.2) (fun i hi => hs _ (f i hi).1.1.1.2) (fun i hi => hs _ (f i hi).1.1.2) (fun i hi j hj => hs _ (of_decide_eq_true (List.all_eq_true.mp (f i hi).1.2 j (List.mem_range.mpr hj)))) (fun i j hi hj hne => ?_) hA
  · match i, hi with
    | 0, _ => decide
    | 1, _ => decide
    | 2, _ => decide
    | 3, _ => decide
    | 4, _ => decide
    | 5, _ => decide
    | i + 6, hi => exact absurd hi (by omega)
  · have h9 := List.all_eq_true.mp (f i hi).2 j (List.mem_range.mpr hj)
    simp only [Bool.or_eq_true, decide_eq_true_eq] at h9
    rcases h9 with (h9 | h9) | h9
    · exact absurd h9 hne
    · exact Or.inl (hs _ h9)
    · exact Or.inr (hs _ h9)
theorem rd_s0 {args : Array Value} {s : State} {A : Nat → Prop} (hg : rd_g.before args s = true) (hts : ∀ w ∈ lw_tbl, w.before args s = true) (hA : ∀ a : Nat, a < s.heap.size → ¬ A a) : ∃ t : Nat, va_Z kx_R4 "USUAL" "[I" (.ref t) A s s.heap ∧ va_T .int t 9 (fun j => .int (kx_sta 0 j)) A s s.heap := by
  have hs := flat_of_before _ hg
  obtain ⟨t, h1, h2⟩ := va_Tof (tm := (Term.static "SensorTree$Plan" "USUAL" "[I")) (ty := .int) (N := 9) (f := fun j => .int (kx_sta 0 j)) (A := A) (by decide) (hs _ (by decide +kernel)) (va_eqt (z := Int32.ofNat 9) (hs _ (by decide +kernel))) (fun j hj => match j, hj with | 0, _ => va_eqt (z := kx_sta 0 0) (hs _ (by decide +kernel)) | 1, _ => va_eqt (z := kx_sta 0 1) (hs _ (by decide +kernel)) | 2, _ => va_eqt (z := kx_sta 0 2) (hs _ (by decide +kernel)) | 3, _ => va_eqt (z := kx_sta 0 3) (hs _ (by decide +kernel)) | 4, _ => va_eqt (z := kx_sta 0 4) (hs _ (by decide +kernel)) | 5, _ => va_eqt (z := kx_sta 0 5) (hs _ (by decide +kernel)) | 6, _ => va_eqt (z := kx_sta 0 6) (hs _ (by decide +kernel)) | 7, _ => va_eqt (z := kx_sta 0 7) (hs _ (by decide +kernel)) | 8, _ => va_eqt (z := kx_sta 0 8) (hs _ (by decide +kernel)) | j + 9, hj => absurd hj (by omega)) hA
  exact ⟨t, va_Zof (hts _ (List.mem_append_right _ (List.mem_of_getElem? (i := 103) (by decide +kernel)))) (hts _ (List.mem_append_right _ (List.mem_of_getElem? (i := 5) (by decide +kernel)))) h1 hA, h2⟩
theorem rd_s1 {args : Array Value} {s : State} {A : Nat → Prop} (hg : rd_g.before args s = true) (hts : ∀ w ∈ lw_tbl, w.before args s = true) (hA : ∀ a : Nat, a < s.heap.size → ¬ A a) : ∃ t : Nat, va_Z kx_R4 "LEAST" "[I" (.ref t) A s s.heap ∧ va_T .int t 9 (fun j => .int (kx_sta 1 j)) A s s.heap := by
  have hs := flat_of_before _ hg
  obtain ⟨t, h1, h2⟩ := va_Tof (tm := (Term.static "SensorTree$Plan" "LEAST" "[I")) (ty := .int) (N := 9) (f := fun j => .int (kx_sta 1 j)) (A := A) (by decide) (hs _ (by decide +kernel)) (va_eqt (z := Int32.ofNat 9) (hs _ (by decide +kernel))) (fun j hj => match j, hj with | 0, _ => va_eqt (z := kx_sta 1 0) (hs _ (by decide +kernel)) | 1, _ => va_eqt (z := kx_sta 1 1) (hs _ (by decide +kernel)) | 2, _ => va_eqt (z := kx_sta 1 2) (hs _ (by decide +kernel)) | 3, _ => va_eqt (z := kx_sta 1 3) (hs _ (by decide +kernel)) | 4, _ => va_eqt (z := kx_sta 1 4) (hs _ (by decide +kernel)) | 5, _ => va_eqt (z := kx_sta 1 5) (hs _ (by decide +kernel)) | 6, _ => va_eqt (z := kx_sta 1 6) (hs _ (by decide +kernel)) | 7, _ => va_eqt (z := kx_sta 1 7) (hs _ (by decide +kernel)) | 8, _ => va_eqt (z := kx_sta 1 8) (hs _ (by decide +kernel)) | j + 9, hj => absurd hj (by omega)) hA
  exact ⟨t, va_Zof (hts _ (List.mem_append_right _ (List.mem_of_getElem? (i := 686) (by decide +kernel)))) (hts _ (List.mem_append_right _ (List.mem_of_getElem? (i := 5) (by decide +kernel)))) h1 hA, h2⟩
theorem rd_s2 {args : Array Value} {s : State} {A : Nat → Prop} (hg : rd_g.before args s = true) (hts : ∀ w ∈ lw_tbl, w.before args s = true) (hA : ∀ a : Nat, a < s.heap.size → ¬ A a) : ∃ t : Nat, va_Z kx_R4 "MOST" "[I" (.ref t) A s s.heap ∧ va_T .int t 9 (fun j => .int (kx_sta 2 j)) A s s.heap := by
  have hs := flat_of_before _ hg
  obtain ⟨t, h1, h2⟩ := va_Tof (tm := (Term.static "SensorTree$Plan" "MOST" "[I")) (ty := .int) (N := 9) (f := fun j => .int (kx_sta 2 j)) (A := A) (by decide) (hs _ (by decide +kernel)) (va_eqt (z := Int32.ofNat 9) (hs _ (by decide +kernel))) (fun j hj => match j, hj with | 0, _ => va_eqt (z := kx_sta 2 0) (hs _ (by decide +kernel)) | 1, _ => va_eqt (z := kx_sta 2 1) (hs _ (by decide +kernel)) | 2, _ => va_eqt (z := kx_sta 2 2) (hs _ (by decide +kernel)) | 3, _ => va_eqt (z := kx_sta 2 3) (hs _ (by decide +kernel)) | 4, _ => va_eqt (z := kx_sta 2 4) (hs _ (by decide +kernel)) | 5, _ => va_eqt (z := kx_sta 2 5) (hs _ (by decide +kernel)) | 6, _ => va_eqt (z := kx_sta 2 6) (hs _ (by decide +kernel)) | 7, _ => va_eqt (z := kx_sta 2 7) (hs _ (by decide +kernel)) | 8, _ => va_eqt (z := kx_sta 2 8) (hs _ (by decide +kernel)) | j + 9, hj => absurd hj (by omega)) hA
  exact ⟨t, va_Zof (hts _ (List.mem_append_right _ (List.mem_of_getElem? (i := 688) (by decide +kernel)))) (hts _ (List.mem_append_right _ (List.mem_of_getElem? (i := 5) (by decide +kernel)))) h1 hA, h2⟩
theorem rd_gx {args : Array Value} {s : State} (h : (Cond.arrayOver (.array .int)).before args s = true) : gx_N s := by
  have h1 : (Cond.arrayOver (.array .int)).holds args s none s [] = true := h
  simp only [Cond.holds, Cond.value, beq_iff_eq] at h1
  cases hc : s.vm.findClass (FieldType.array .int).toString with
  | none => simp [hc] at h1
  | some cI =>
    simp only [hc, Option.bind_some, Option.bind_eq_some_iff, Option.map_eq_some_iff] at h1
    obtain ⟨cA, hi, kA, hk, hb⟩ := h1
    obtain ⟨hlt, hp, -⟩ := Array.findIdx?_eq_some_iff_getElem.mp hi
    have hkk : s.vm.classes[cA] = kA := (Array.getElem?_eq_some_iff.mp hk).2
    rw [hkk] at hp
    cases hkind : kA.kind with
    | array cm ty =>
      rw [hkind] at hb hp
      simp at hb hp
      exact ⟨cI, cA, kA, hc, hb.2, hk, by rw [hkind, hp, hb.1]⟩
    | _ => rw [hkind] at hb; simp at hb
theorem rd_N {args : Array Value} {s : State} (hts : ∀ w ∈ lw_tbl, w.before args s = true) : ct_N s :=
  ⟨va_Nw.of rfl (hts _ (List.mem_append_right _ (List.mem_of_getElem? (i := 29) (by decide +kernel)))), va_Nw.of rfl (hts _ (List.mem_append_right _ (List.mem_of_getElem? (i := 45) (by decide +kernel)))), va_Nw.of rfl (hts _ (List.mem_append_right _ (List.mem_of_getElem? (i := 51) (by decide +kernel)))), va_Nw.of rfl (hts _ (List.mem_append_right _ (List.mem_of_getElem? (i := 183) (by decide +kernel)))), va_Nw.of rfl (hts _ (List.mem_append_right _ (List.mem_of_getElem? (i := 218) (by decide +kernel)))), va_Nw.of rfl (hts _ (List.mem_append_right _ (List.mem_of_getElem? (i := 369) (by decide +kernel)))), va_Nw.of rfl (hts _ (List.mem_append_right _ (List.mem_of_getElem? (i := 386) (by decide +kernel)))), va_AO.of (A := args) (hts _ (List.mem_append_right _ (List.mem_of_getElem? (i := 180) (by decide +kernel)))), va_AO.of (A := args) (hts _ (List.mem_append_right _ (List.mem_of_getElem? (i := 429) (by decide +kernel)))), rd_gx (hts _ (List.mem_append_right _ (List.mem_of_getElem? (i := 101) (by decide +kernel))))⟩
theorem rd_ar {args : Array Value} {s : State} {ty : FieldType} (h : (Cond.arrayClass ty).before args s = true) : ∃ cA : ClassId, ArrOfT s cA ty ∧ s.vm.findClass ("[" ++ ty.toString) = some cA := by
  obtain ⟨cA, kA, cm, h1, h2, h3⟩ := Cond.arrayClass_spec h
  exact ⟨cA, fun n z => ⟨fun k q => (by cases q), kA, h2, cm, h3⟩, h1⟩
theorem rd_aq {s : State} {C : String} (h : va_AO C s) : ∃ cA : ClassId, ArrOfT s cA (.object C) ∧ va_RA s cA (.object C) := by
  obtain ⟨cm, cA, k, h1, h2, h3, h4, h5⟩ := Cond.arrayOver_spec (show (Cond.arrayOver (.object C)).before #[] s = true from h)
  exact ⟨cA, fun n z => ⟨fun k q => (by cases q), k, h3, cm, h4⟩, k, cm, h3, h4, h1, h5⟩
def rd_I : List (Nat × Nat × Nat) := (List.range 1060).map (fun j => (99, j, 0))
theorem rd_mem {i : Nat × Nat × Nat} (h : i ∈ rd_I) : ∃ j, j < 1060 ∧ i = (99, j, 0) := by
  unfold rd_I at h
  obtain ⟨j, hj, hi⟩ := List.mem_map.mp h
  exact ⟨j, List.mem_range.mp hj, hi.symm⟩
theorem rd_in {j : Nat} (h : j < 1060) : (99, j, 0) ∈ rd_I := by
  unfold rd_I
  exact List.mem_map.mpr ⟨j, List.mem_range.mpr h, rfl⟩
theorem rd_one {a b : Nat} {i : Nat × Nat × Nat} (ha : rd_I[a]? = some i) (hb : rd_I[b]? = some i) : a = b := by
  have key : ∀ c : Nat, rd_I[c]? = some i → i = (99, c, 0) := by
    intro c hc
    unfold rd_I at hc
    rw [List.getElem?_map] at hc
    by_cases hl : c < 1060
    · rw [List.getElem?_range hl] at hc
      exact (Option.some.inj hc).symm
    · rw [List.getElem?_eq_none (by rw [List.length_range]; omega)] at hc
      cases hc
  have h1 := (key a ha).symm.trans (key b hb)
  exact congrArg (fun z : Nat × Nat × Nat => z.2.1) h1
set_option maxRecDepth 100000 in
set_option maxHeartbeats 4000000 in
/-- what is only read, at the start -/
theorem rd_all {args : Array Value} {s : State} (hg : rd_g.before args s = true) (hts : ∀ w ∈ lw_tbl, w.before args s = true) : ∃ K : sx_K, sx_S K s ∧ ∀ j, j < 1060 → sx_A K (s.heap.size + j) := by
  have hs := flat_of_before _ hg
  have hgw : ∀ w ∈ lw_g, w.before args s = true := fun w hw => hts w (List.mem_filter.mp hw).1
  obtain ⟨cC0, iS0, kn0⟩ := u_known (n := 4) hgw kx_i0 (hts _ (List.mem_append_right _ (List.mem_of_getElem? (i := 363) (by decide +kernel))))
  obtain ⟨cC1, iS1, kn1⟩ := u_known (n := 7) hgw kx_i1 (hts _ (List.mem_append_right _ (List.mem_of_getElem? (i := 396) (by decide +kernel))))
  obtain ⟨cC2, iS2, kn2⟩ := u_known (n := 7) hgw kx_i2 (hts _ (List.mem_append_right _ (List.mem_of_getElem? (i := 182) (by decide +kernel))))
  obtain ⟨cC3, iS3, kn3⟩ := u_known (n := 12) hgw kx_i3 (hts _ (List.mem_append_right _ (List.mem_of_getElem? (i := 174) (by decide +kernel))))
  obtain ⟨cC4, iS4, kn4⟩ := u_known (n := 8) hgw kx_i4 (hts _ (List.mem_append_right _ (List.mem_of_getElem? (i := 95) (by decide +kernel))))
  obtain ⟨cC5, iS5, kn5⟩ := u_known (n := 14) hgw kx_i5 (hts _ (List.mem_append_right _ (List.mem_of_getElem? (i := 217) (by decide +kernel))))
  obtain ⟨cC6, iS6, kn6⟩ := u_known (n := 5) hgw kx_i6 (hts _ (List.mem_append_right _ (List.mem_of_getElem? (i := 44) (by decide +kernel))))
  obtain ⟨cC7, iS7, kn7⟩ := u_known (n := 2) hgw kx_i7 (hts _ (List.mem_append_right _ (List.mem_of_getElem? (i := 28) (by decide +kernel))))
  obtain ⟨cC8, iS8, kn8⟩ := u_known (n := 10) hgw kx_i8 (hts _ (List.mem_append_right _ (List.mem_of_getElem? (i := 50) (by decide +kernel))))
  obtain ⟨cC9, iS9, kn9⟩ := u_known (n := 1) hgw kx_i9 (hts _ (List.mem_append_right _ (List.mem_of_getElem? (i := 385) (by decide +kernel))))
  obtain ⟨cC10, iS10, kn10⟩ := u_known (n := 14) hgw kx_i10 (hts _ (List.mem_append_right _ (List.mem_of_getElem? (i := 20) (by decide +kernel))))
  obtain ⟨cC11, iS11, kn11⟩ := u_known (n := 41) hgw kx_i11 (hts _ (List.mem_append_right _ (List.mem_of_getElem? (i := 1068) (by decide +kernel))))
  obtain ⟨t0, p0, q0⟩ := rd_ar (ty := .int) (hts _ (List.mem_append_right _ (List.mem_of_getElem? (i := 93) (by decide +kernel))))
  obtain ⟨t1, p1, q1⟩ := rd_ar (ty := .byte) (hts _ (List.mem_append_right _ (List.mem_of_getElem? (i := 42) (by decide +kernel))))
  obtain ⟨t2, p2, q2⟩ := rd_ar (ty := .boolean) (hts _ (List.mem_append_right _ (List.mem_of_getElem? (i := 498) (by decide +kernel))))
  obtain ⟨t3, p3, q3⟩ := rd_ar (ty := .long) (hts _ (List.mem_append_right _ (List.mem_of_getElem? (i := 1242) (by decide +kernel))))
  obtain ⟨t4, p4, q4⟩ := rd_aq (rd_N hts).2.2.2.2.2.2.2.1
  obtain ⟨t5, p5, q5⟩ := rd_aq (rd_N hts).2.2.2.2.2.2.2.2.1
  obtain ⟨c6, t6, k6, p6, q6, r6, z6⟩ := (rd_N hts).2.2.2.2.2.2.2.2.2
  have hA : ∀ a : Nat, a < s.heap.size → ¬ (fun q => s.heap.size ≤ q) a := fun a h => Nat.not_le.mpr h
  obtain ⟨adK, adV, hv, he⟩ := rd_str (A := fun q => s.heap.size ≤ q) hg hA
  obtain ⟨u0, z0, y0⟩ := rd_s0 (A := fun q => s.heap.size ≤ q) hg hts hA
  obtain ⟨u1, z1, y1⟩ := rd_s1 (A := fun q => s.heap.size ≤ q) hg hts hA
  obtain ⟨u2, z2, y2⟩ := rd_s2 (A := fun q => s.heap.size ≤ q) hg hts hA
  have hcs := va_Zof (A := fun q => s.heap.size ≤ q) (hts _ (List.mem_append_right _ (List.mem_of_getElem? (i := 572) (by decide +kernel)))) (hts _ (List.mem_append_right _ (List.mem_of_getElem? (i := 13) (by decide +kernel)))) (va_eqi (C := "java/lang/String") (n := "COMPACT_STRINGS") (d := "Z") (z := 1) (hs _ (by decide +kernel))) hA
  have hsf := va_Zqof (C := "jdk/internal/util/Preconditions") (n := "SIOOBE_FORMATTER") (d := "Ljava/util/function/BiFunction;") (A := fun q => s.heap.size ≤ q) (hts _ (List.mem_append_right _ (List.mem_of_getElem? (i := 588) (by decide +kernel)))) (hts _ (List.mem_append_right _ (List.mem_of_getElem? (i := 15) (by decide +kernel)))) (hs _ (by decide +kernel)) hA
  have hNar : ∀ q, sx_A (((fun k => [cC0, cC1, cC2, cC3, cC4, cC5, cC6, cC7, cC8, cC9, cC10, cC11].getD k 0, fun k => [iS0, iS1, iS2, iS3, iS4, iS5, iS6, iS7, iS8, iS9, iS10, iS11].getD k (fun _ => 0)), fun k => [t0, t1, t2, t3, t4, t5, t6].getD k 0, fun k n p => match k with | 40 => adK n | 41 => adV n | 42 => (if n = 0 then u0 else if n = 1 then u1 else u2) | _ => s.heap.size + n, rd_I) : sx_K) q → s.heap.size ≤ q := by
    intro q h
    obtain ⟨i, hi, rfl⟩ := h
    obtain ⟨j, -, hj⟩ := rd_mem hi
    subst hj
    exact Nat.le_add_right _ _
  refine ⟨((fun k => [cC0, cC1, cC2, cC3, cC4, cC5, cC6, cC7, cC8, cC9, cC10, cC11].getD k 0, fun k => [iS0, iS1, iS2, iS3, iS4, iS5, iS6, iS7, iS8, iS9, iS10, iS11].getD k (fun _ => 0)), fun k => [t0, t1, t2, t3, t4, t5, t6].getD k 0, fun k n p => match k with | 40 => adK n | 41 => adV n | 42 => (if n = 0 then u0 else if n = 1 then u1 else u2) | _ => s.heap.size + n, rd_I), ⟨⟨fun a b i ha hb => ?_, fun i hi j hj e => ?_⟩, ⟨fun k q hk => ?_, fun k q hk => ?_⟩, ⟨hv.narrow hNar, ⟨z0.narrow hNar, y0.narrow hNar⟩, ⟨z1.narrow hNar, y1.narrow hNar⟩, ⟨z2.narrow hNar, y2.narrow hNar⟩, hcs.narrow hNar, hsf.narrow hNar⟩, vk_R.of (A := args) (hts _ (List.mem_append_right _ (List.mem_of_getElem? (i := 55) (by decide +kernel)))) (he 0 (by decide)), vk_R.of (A := args) (hts _ (List.mem_append_right _ (List.mem_of_getElem? (i := 619) (by decide +kernel)))) (he 1 (by decide)), vk_R.of (A := args) (hts _ (List.mem_append_right _ (List.mem_of_getElem? (i := 620) (by decide +kernel)))) (he 2 (by decide)), vk_R.of (A := args) (hts _ (List.mem_append_right _ (List.mem_of_getElem? (i := 621) (by decide +kernel)))) (he 3 (by decide)), vk_R.of (A := args) (hts _ (List.mem_append_right _ (List.mem_of_getElem? (i := 622) (by decide +kernel)))) (he 4 (by decide)), vk_R.of (A := args) (hts _ (List.mem_append_right _ (List.mem_of_getElem? (i := 562) (by decide +kernel)))) (he 5 (by decide))⟩, fun j hj => ⟨(99, j, 0), rd_in hj, rfl⟩⟩
  · exact rd_one ha hb
  · obtain ⟨x, -, hx⟩ := rd_mem hi
    obtain ⟨y, -, hy⟩ := rd_mem hj
    subst hx
    subst hy
    have e2 : s.heap.size + x = s.heap.size + y := e
    rw [show x = y by omega]
  · match k, hk with
    | 0, hk => cases hk; exact kn0
    | 1, hk => cases hk; exact kn1
    | 2, hk => cases hk; exact kn2
    | 3, hk => cases hk; exact kn3
    | 4, hk => cases hk; exact kn4
    | 5, hk => cases hk; exact kn5
    | 6, hk => cases hk; exact kn6
    | 7, hk => cases hk; exact kn7
    | 8, hk => cases hk; exact kn8
    | 9, hk => cases hk; exact kn9
    | 10, hk => cases hk; exact kn10
    | 11, hk => cases hk; exact kn11
    | k + 12, hk => exact absurd hk (by rw [List.getElem?_eq_none (by show 12 ≤ _; omega)]; exact fun q => by cases q)
  · match k, hk with
    | 0, hk => cases hk; exact ⟨p0, q0⟩
    | 1, hk => cases hk; exact ⟨p1, q1⟩
    | 2, hk => cases hk; exact ⟨p2, q2⟩
    | 3, hk => cases hk; exact ⟨p3, q3⟩
    | 4, hk => cases hk; exact ⟨p4, q4⟩
    | 5, hk => cases hk; exact ⟨p5, q5⟩
    | 6, hk => cases hk; exact ⟨fun n z => ⟨fun k q => (by cases q), k6, r6, c6, z6⟩, q6⟩
    | k + 7, hk => exact absurd hk (by rw [List.getElem?_eq_none (by show 7 ≤ _; omega)]; exact fun q => by cases q)
