/-- a square of numbers: the row of its rows, when i of them stand -/
def gx_f (h i : Nat) : Nat → Option Nat := fun j => if j < i then some (h + 1 + j) else none
def gx_o (cA : ClassId) (h i : Nat) : Cell := arrV cA 7 (fun j => va_rf (gx_f h i j))
def gx_r (cI : ClassId) : Cell := arrV cI 7 (fun _ => .int 0)
def gx_s (T : State) (cA cI : ClassId) : Nat → State
  | 0 => T.pushCell (gx_o cA T.heap.size 0)
  | i + 1 => ((gx_s T cA cI i).pushCell (gx_r cI)).setCell T.heap.size (gx_o cA T.heap.size (i + 1))
theorem gx_o_set (cA : ClassId) (h i : Nat) : (gx_o cA h i).setSlot i (.ref (h + 1 + i)) = gx_o cA h (i + 1) := by
  unfold gx_o
  rw [arrV_store]
  congr 1
  funext j
  unfold updV gx_f
  by_cases h1 : j = i
  · subst h1
    rw [if_pos rfl, if_pos (Nat.lt_succ_self _)]
    rfl
  · rw [if_neg h1]
    dsimp only
    by_cases h2 : j < i
    · rw [if_pos h2, if_pos (by omega)]
    · rw [if_neg h2, if_neg (by omega)]
theorem gx_F (T : State) (cA cI : ClassId) : ∀ i : Nat, (gx_s T cA cI i).heap.size = T.heap.size + 1 + i ∧ (gx_s T cA cI i).heap[T.heap.size]? = some (gx_o cA T.heap.size i) ∧ (gx_s T cA cI i).vm = T.vm ∧ (gx_s T cA cI i).slotsUsed = T.slotsUsed + 7 + 7 * i ∧ (∀ a : Nat, a < T.heap.size → (gx_s T cA cI i).heap[a]? = T.heap[a]?) ∧ ∀ j : Nat, j < i → (gx_s T cA cI i).heap[T.heap.size + 1 + j]? = some (gx_r cI) := by
  intro i
  induction i with
  | zero => exact ⟨by simp [gx_s], by simp [gx_s], rfl, by simp [gx_s, gx_o, arrV_size], fun a ha => State.heap_pushCell_of_lt _ _ ha, fun j hj => absurd hj (Nat.not_lt_zero _)⟩
  | succ i ih =>
    obtain ⟨f1, f2, f3, f4, f5, f6⟩ := ih
    have hlt : T.heap.size < (gx_s T cA cI i).heap.size := by omega
    have hb : ((gx_s T cA cI i).pushCell (gx_r cI)).heap[T.heap.size]? = some (gx_o cA T.heap.size i) := by rw [State.heap_pushCell_of_lt (h := hlt)]; exact f2
    refine ⟨?_, State.heap_setCell_self hb, by simp [gx_s, f3], ?_, fun a ha => ?_, fun j hj => ?_⟩
    · simp [gx_s, State.setCell, f1]; omega
    · simp [gx_s, f4, gx_r, arrV_size]; omega
    · show (((gx_s T cA cI i).pushCell (gx_r cI)).setCell T.heap.size _).heap[a]? = _
      rw [State.heap_setCell_other (Nat.ne_of_gt ha), State.heap_pushCell_of_lt (h := Nat.lt_trans ha hlt)]
      exact f5 a ha
    · show (((gx_s T cA cI i).pushCell (gx_r cI)).setCell T.heap.size _).heap[T.heap.size + 1 + j]? = _
      rw [State.heap_setCell_other (show T.heap.size ≠ T.heap.size + 1 + j by omega)]
      by_cases hj2 : j < i
      · have hlt2 : T.heap.size + 1 + j < (gx_s T cA cI i).heap.size := by omega
        rw [State.heap_pushCell_of_lt (h := hlt2)]
        exact f6 j hj2
      · rw [show T.heap.size + 1 + j = (gx_s T cA cI i).heap.size by omega]
        exact State.heap_pushCell_size _ _
theorem gx_top (T : State) (g : JFrame) (cA cI : ClassId) : ∀ i : Nat, gx_s (T.setTop g) cA cI i = (gx_s T cA cI i).setTop g := by
  intro i
  induction i with
  | zero => rfl
  | succ i ih => simp only [gx_s, ih, State.heap_setTop, State.pushCell_setTop, State.setCell_setTop]
section GRID
variable {p : Program} {l : Launch} {e : Env} {R : Room} {s : State} {m : MethodId} {args : Array Value} {below : List Frame} {meth : Method} {c : Code} {T : State} {locs : List Loc} {cells slots : Nat} {H : Heap} {Q : State → Prop}
theorem gx_X (X : Stand p l e R s m args below meth c T locs cells slots) (cA cI : ClassId) : ∀ i : Nat, Stand p l e R s m args below meth c (gx_s T cA cI i) locs (cells + 1 + i) (slots + 7 + 7 * i) := by
  intro i
  induction i with
  | zero =>
    have h := X.pushed (gx_o cA T.heap.size 0)
    rw [show (gx_o cA T.heap.size 0).slots.size = 7 from arrV_size _ _ _] at h
    exact h
  | succ i ih =>
    obtain ⟨f1, f2, -⟩ := gx_F T cA cI i
    have hlt : T.heap.size < (gx_s T cA cI i).heap.size := by omega
    have hb : ((gx_s T cA cI i).pushCell (gx_r cI)).heap[T.heap.size]? = some (gx_o cA T.heap.size i) := by rw [State.heap_pushCell_of_lt (h := hlt)]; exact f2
    have h := (ih.pushed (gx_r cI)).stored hb i (.ref (T.heap.size + 1 + i))
    rw [gx_o_set, show (gx_r cI).slots.size = 7 from arrV_size _ _ _] at h
    have h2 := Stand.forget h (fun y hy => by rw [List.mem_singleton.mp hy]; exact X.heapGrown)
    rw [show slots + 7 + 7 * (i + 1) = slots + 7 + 7 * i + 7 by omega]
    exact h2
/-- the making of it -/
theorem gx_wp {E : CtlPost} {d : Bool} {acts : List Action} {S : State} {cA cI cN : ClassId} {kA kI : Class} (hkA : S.vm.classes[cA]? = some kA) (hA : kA.kind = .array cI (.array .int)) (hkI : S.vm.classes[cI]? = some kI) (hI : kI.kind = .array cN .int)
    (h1 : 7 ≤ e.platform.arrayLengthLimit) (h2 : 28 ≤ e.platform.maxHeapBytes) (h3 : S.heap.size + 8 ≤ e.platform.maxCells) (h4 : S.slotsUsed + 56 ≤ e.platform.maxSlots) {Qw : Addr → Pre} (hq : ∀ d2 acts2, Qw S.heap.size d2 acts2 (gx_s S cA cI 7)) : wp (multianewarray.make cA [7, 7]) Qw E e d acts S := by
  have row : ∀ (S2 : State) (d2 : Bool) (acts2 : List Action) (Q2 : Addr → Pre), S2.vm = S.vm → S2.heap.size < e.platform.maxCells → S2.slotsUsed + 7 ≤ e.platform.maxSlots → (∀ acts3, Q2 S2.heap.size d2 acts3 (S2.pushCell (gx_r cI))) → wp (multianewarray.make cI [7]) Q2 E e d2 acts2 S2 := by
    intro S2 d2 acts2 Q2 hv hc hs hq2
    rw [multianewarray.make]
    simp only [wp_bind', W.ite, show ¬ ((7 : Int32) < 0) by decide, if_false, wp_pure', W.theClass, hv, hkI, hI, Option.some.injEq, exists_eq_left']
    refine W.newArray_of (by rw [hv]; exact hkI) hI (by show ¬ 7 > _; omega) (by show ¬ 7 * 4 > _; omega) hc hs rfl (fun acts3 => ?_)
    have e1 := hq2 acts3
    rw [show gx_r cI = arrV cI 7 (fun _ => .int 0) from rfl, ← arrV_new] at e1
    exact e1
  rw [multianewarray.make]
  simp only [wp_bind', W.ite, show ¬ ((7 : Int32) < 0) by decide, if_false, wp_pure', W.theClass, hkA, hA, Option.some.injEq, exists_eq_left']
  refine W.newArray_of hkA hA (by show ¬ 7 > _; omega) (by show ¬ 7 * 4 > _; omega) (by omega) (by show _ + 7 ≤ _; omega) rfl (fun acts3 => ?_)
  have e0 : S.pushCell { cls := cA, slots := Array.replicate (7 : Int32).toNatClampNeg .null } = gx_s S cA cI 0 := by
    show _ = S.pushCell (gx_o cA S.heap.size 0)
    rw [show gx_o cA S.heap.size 0 = arrV cA 7 (fun _ => .null) from rfl, ← arrV_new]
    rfl
  rw [e0]
  simp only [show ([7] : List Int32).find? (· < 0) = none by decide]
  rw [ite_self, wp_bind', Std.Legacy.Range.forIn_eq_forIn_range']
  show wp (forIn (List.range' 0 7 1) PUnit.unit _) _ E e d acts3 _
  refine wp_forIn_inv (fun rest S2 => ∃ i : Nat, i ≤ 7 ∧ rest = List.range' i (7 - i) ∧ S2 = gx_s S cA cI i) _ _ ⟨0, Nat.zero_le _, rfl, rfl⟩ ?_ ?_
  · rintro x rest S2 d2 acts2 Q2 ⟨i, hi, hl, rfl⟩ hnext
    have hlt : i < 7 := by
      by_cases h : i < 7
      · exact h
      · rw [show 7 - i = 0 by omega] at hl; cases hl
    rw [show 7 - i = (7 - (i + 1)) + 1 by omega, List.range'_succ] at hl
    obtain ⟨hx, hrest⟩ := List.cons.inj hl
    subst hx
    obtain ⟨f1, f2, f3, f4, -⟩ := gx_F S cA cI x
    have hlt0 : S.heap.size < (gx_s S cA cI x).heap.size := by omega
    simp only [wp_bind']
    refine row _ _ _ _ f3 (by omega) (by omega) (fun acts4 => ?_)
    simp only [wp_bind', W.writeLoc, wp_pure']
    refine ⟨gx_o cA S.heap.size x, by rw [State.heap_pushCell_of_lt (h := hlt0)]; exact f2, by simp [gx_o, arrV], by rw [show (gx_o cA S.heap.size x).slots.size = 7 from arrV_size _ _ _]; exact hlt, ?_, hnext _ _ _ ⟨x + 1, hlt, hrest, ?_⟩⟩
    · show State.fitsSlot _ cA .none x _ = true
      simp [State.fitsSlot, State.slotType?, f3, hkA, hA, fits]
    · rw [f1, gx_o_set]; rfl
  · rintro S2 d2 acts2 ⟨i, hi, hl, rfl⟩
    have hiN : i = 7 := by
      by_cases h : i < 7
      · rw [show 7 - i = (7 - (i + 1)) + 1 by omega, List.range'_succ] at hl; cases hl
      · omega
    subst hiN
    simp only [wp_pure']
    exact hq _ _
/-- what the tables say of rows of rows -/
def gx_N (U : State) : Prop := ∃ (cI cA : ClassId) (kA : Class), U.vm.findClass "[I" = some cI ∧ U.vm.findClass "[[I" = some cA ∧ U.vm.classes[cA]? = some kA ∧ kA.kind = .array cI (.array .int)
theorem gx_N.moved {u U : State} (hvm : u.vm.Alike U.vm) (h : gx_N u) : gx_N U := by
  obtain ⟨cI, cA, kA, h1, h2, h3, h4⟩ := h
  obtain ⟨k2, hk2, he⟩ := hvm.2.2 _ _ h3
  exact ⟨cI, cA, k2, by rw [hvm.findClass]; exact h1, by rw [hvm.findClass]; exact h2, hk2, by rw [he]; exact h4⟩
theorem gx_W {cc : ByteArray} {own : String} {index pc h : Nat} {ls : Array Slot} {rest : List Value} (hexec : p.tables.exec = Jvm.exec) (hb : c.code = cc) (hown : s.vm.findClass own = some m.cls) (hclink : (Cond.classLink own index "[[I").before args s = true) (hG : gx_N s) (harr : (Cond.arrayClass .int).before args s = true) (hdg : decode cc pc = .ok (.multianewarray index 2, 4)) (hcells : cells + 8 ≤ R.cells) (hslots : slots + 56 ≤ R.slots) (hh : H.size = h)
    (kk : ∀ (H1 : Heap) (cA cI : ClassId), s.vm.findClass "[[I" = some cA → s.vm.findClass "[I" = some cI → H1.size = h + 8 → H1[h]? = some (gx_o cA h 7) → (∀ j : Nat, j < 7 → H1[h + 1 + j]? = some (gx_r cI)) → (∀ q : Nat, q < h → H1[q]? = H[q]?) → W p l e R s m args below meth c H1 locs (cells + 8) (slots + 56) Q (F0 m (pc + 4) ls (.ref h :: rest))) : W p l e R s m args below meth c H locs cells slots Q (F0 m pc ls (.int 7 :: .int 7 :: rest)) := by
  intro T hT X
  subst hT
  subst hh
  subst hb
  have hpl : e.platform.magicAccessors = ({} : Platform).magicAccessors := by rw [X.admits.platform]
  obtain ⟨cI, cA, kA, n1, n2, n3, n4⟩ := hG
  obtain ⟨cI2, kI, cN, i1, i2, i3⟩ := Cond.arrayClass_spec harr
  have eI : cI2 = cI := Option.some.inj (i1.symm.trans n1)
  subst eI
  obtain ⟨c0, hfc0, hcl⟩ := Cond.classLink_spec hown hclink e.platform hpl
  have eA : c0 = cA := Option.some.inj (hfc0.symm.trans n2)
  subst eA
  obtain ⟨hg1, hwarm1, hready1⟩ := State.classEntry (e := e) X.warmed hcl
  generalize T.vm.noted m.cls index (.cls c0) = vm1 at hg1 hwarm1 hready1
  obtain ⟨kA1, hkA1, heA⟩ := hwarm1.alike.2.2 _ _ n3
  obtain ⟨kI1, hkI1, heI⟩ := hwarm1.alike.2.2 _ _ i2
  have X1 := X.noted hwarm1
  have XF := gx_X X1 c0 cI2 7
  obtain ⟨f1, f2, f3, f4, f5, f6⟩ := gx_F (T.setVm vm1) c0 cI2 7
  obtain ⟨hr1, hr2⟩ := X.roomAbove hcells hslots
  obtain ⟨t, a1, b1⟩ := kk (gx_s (T.setVm vm1) c0 cI2 7).heap c0 cI2 n2 n1 f1 f2 f6 f5 (gx_s (T.setVm vm1) c0 cI2 7) rfl XF
  refine ⟨t, ?_, b1⟩
  have hl1 : 7 ≤ e.platform.arrayLengthLimit := by rw [Launch.admits_arrayLengthLimit X.admits]; omega
  have hl2 : 28 ≤ e.platform.maxHeapBytes := by rw [Launch.admits_maxHeapBytes X.admits]; omega
  jvm_step X.here [hexec, hdg]
  simp only [multianewarray.sem, wp_bind', W.resolveClassAt_links (State.method?_setTop (F0 m pc ls (.int 7 :: .int 7 :: rest)) X.here.top) hg1]
  rw [W.popN, if_neg (by decide)]
  refine ⟨F0 m pc ls (.int 7 :: .int 7 :: rest), State.topJava?_setTop' (s := T.setVm vm1) (F0 m pc ls (.int 7 :: .int 7 :: rest)) X.here.top, [.int 7, .int 7], rest, rfl, rfl, ?_⟩
  simp only [List.mapM_cons, List.mapM_nil, wp_bind', wp_pure']
  refine gx_wp (S := ((T.setTop (F0 m pc ls (.int 7 :: .int 7 :: rest))).setVm vm1).setTop { F0 m pc ls (.int 7 :: .int 7 :: rest) with stack := rest }) (kA := kA1) (kI := kI1) (cI := cI2) (cN := cN) hkA1 (by rw [heA]; exact n4) hkI1 (by rw [heI]; exact i3) hl1 hl2 (by show T.heap.size + 8 ≤ _; exact hr1) (by show T.slotsUsed + 56 ≤ _; exact hr2) (fun d2 acts2 => ?_)
  have eS : ((T.setTop (F0 m pc ls (.int 7 :: .int 7 :: rest))).setVm vm1).setTop (F0 m pc ls rest) = (T.setVm vm1).setTop (F0 m pc ls rest) := by
    show ((T.setVm vm1).setTop (F0 m pc ls (.int 7 :: .int 7 :: rest))).setTop _ = _
    rw [State.setTop_setTop]
  have eS2 : ((T.setTop (F0 m pc ls (.int 7 :: .int 7 :: rest))).setVm vm1).setTop { F0 m pc ls (.int 7 :: .int 7 :: rest) with stack := rest } = (T.setVm vm1).setTop (F0 m pc ls rest) := eS
  rw [eS2, gx_top]
  simp only [wp_bind', W.mark, W.pushRef, State.topJava?_setTop' _ XF.here.top, Option.some.injEq, exists_eq_left', State.setTop_setTop, State.heap_setTop]
  intro acts
  simp [jvm, XF.here.top]
  exact a1
end GRID
