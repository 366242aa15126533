def R_law : String := "SensorTreeLaw"
def lw_P (b : Addr) (xs : List Int32) (args : Array Value) (s : State) : Prop := args = #[.ref b] ∧ s.IntsAt b xs ∧ xs.length ≤ 3072 ∧ (Jvm.Cond.and given_1 narrow_1).before args s = true
def lw_Q (_ : Array Value) (s : State) (o : Outcome) (t : State) : Prop := o = .returned (some (.int 1)) ∧ Framed s o t [] 600000 7302250
def lw_Z (below : List Frame) (a : Array Value) (s : State) : State → Prop := fun t => ∃ o, t.status = .running ∧ Ended t below o ∧ lw_Q a s o t
/-- the law's own end, with 1 on the stack, nothing written that was there before, its room as the claim has it -/
theorem lw_ret {p : Program} {l : Launch} {e : Env} {s : State} {m : MethodId} {below : List Frame} {meth : Method} {c : Code} {b : Nat} (hx : p.tables.exec = Jvm.exec) (hb : c.code = code) (hr : meth.sig.returnType = ret) (hlocks : meth.locks = false) {pc : Nat} {H : Heap} {ls : Array Slot} (hdg : decode code pc = .ok (.ireturn, 1)) : W p l e room_1 s m #[Value.ref b] below meth c H [] 600000 7302250 (lw_Z below #[Value.ref b] s) (F0 m pc ls [.int 1]) := by
  intro T hT X
  obtain ⟨fs, hret, hrun, hended, hW, hframe⟩ := X.leave (v := some (.int 1)) (hlocks := hlocks) (fun h => by rw [hr] at h; cases h)
  have hmeth' : T.vm.method? m = some meth := X.method'
  refine ⟨T.setFrames fs, ?_, .returned (some (.int 1)), hrun, hended, rfl, ⟨_, rfl⟩, hW, hframe⟩
  jvm_step X.here [X.here.top, hx, hb, hdg, hmeth', hr, ret, narrow_b1]
  (try refine ⟨rfl, ?_⟩); (try refine ⟨rfl, ?_⟩)
  first | (intro acts; rw [hret _ acts rfl rfl rfl]) | rw [hret _ _ rfl rfl rfl]
  exact Steps.refl _
/-- what holds at the law's entry: the machine, the code, the tables' words (any of lw_tbl by 'hts w (by decide +kernel)'), the script of L ints xs at the cell b, what the Statement gives of the start (any of its parts by flat_of_before) -/
def lw_At (p : Program) (s : State) (m : MethodId) (meth : Method) (c : Code) (b L : Nat) (xs : Nat → Int32) : Prop :=
  p.tables.exec = Jvm.exec ∧ c.code = code ∧ meth.sig.returnType = ret ∧ c.maxLocals = 4 ∧ s.vm.findClass R_law = some m.cls ∧ (∀ w ∈ lw_tbl, w.before #[Value.ref b] s = true) ∧ va_X b L xs s s.heap ∧ b < s.heap.size ∧ meth.locks = false ∧ (Jvm.Cond.and given_1 narrow_1).before #[Value.ref b] s = true
/-- the cells that are the law's own -/
abbrev lx_A (X : sx_T) : Nat → Prop := fun q => (sx_s X).heap.size ≤ q
abbrev lx_G (X : sx_T) (pc : Nat) (lv : List (Nat × Value)) (st : List Value) (P : Heap → Prop) : Prop := sx_GA X (lx_A X) 4 pc lv st P
/-- both sides' cells -/
abbrev lx_H (KC KR : sx_K) (σ : sx_M) (τ : sx_L) (ρ : sx_M) (θ : sx_L) : Heap → Prop := fun H => sx_H KC σ τ H ∧ sx_H KR ρ θ H
/-- all that the law's loop knows -/
def lx_C (X : sx_T) (KC KR : sx_K) (b L : Nat) (xs : Nat → Int32) (l : Launch) : Prop :=
  sx_C X KC code 4 R_law ret room_1 l ∧ sx_S KR (sx_s X) ∧ (va_X b L xs (sx_s X) (sx_s X).heap ∧ b < (sx_s X).heap.size ∧ L ≤ 3072) ∧
  ((∀ q, sx_A KC q → lx_A X q) ∧ (∀ q, sx_A KR q → lx_A X q) ∧ (∀ q, sx_A KC q → ¬ sx_A KR q) ∧ ∀ q, sx_A KR q → ¬ sx_A KC q) ∧ (kx_C KC ∧ kx_F KR) ∧ sx_a X = #[Value.ref b] ∧ sx_q X = lw_Z (sx_b X) #[Value.ref b] (sx_s X)
/-- the law's locals -/
abbrev lx_lv (KC KR : sx_K) (b i : Nat) : List (Nat × Value) := [(3, .int (nI i)), (0, .ref b), (1, .ref (KC.2.2.1 0 0 0)), (2, .ref (KR.2.2.1 50 0 0))]
/-- what follows a case -/
def lx_next (X : sx_T) (KC KR : sx_K) (b i : Nat) : Prop := ∀ (σ2 : sx_M) (τ2 : sx_L) (ρ2 : sx_M) (θ2 : sx_L), pn_I σ2 ρ2 θ2 → lx_G X 1189 (lx_lv KC KR b i) [] (lx_H KC KR σ2 τ2 ρ2 θ2)
def lx_b (x : Int32) : Int32 := if x = 0 then 0 else 1
theorem lx_bz (x : Int32) : pn_z (lx_b x) := by
  unfold lx_b
  by_cases h : x = 0
  · rw [if_pos h]; exact Or.inl rfl
  · rw [if_neg h]; exact Or.inr rfl
section LAWA
variable {X : sx_T} {K0 K K1 KC KR : sx_K} {l : Launch} {pc pc2 : Nat} {lv : List (Nat × Value)} {st : List Value} {P P2 : Heap → Prop} {σ σ1 : sx_M} {τ τ1 : sx_L} {k n p b L i : Nat} {xs : Nat → Int32}
theorem lx_imp (h : ∀ H, P H → P2 H) (kk : lx_G X pc lv st P2) : lx_G X pc lv st P := fun H locs ls hP hS hl => kk H locs ls (h H hP) hS hl
theorem lx_swi (hX : sx_C X K0 code 4 R_law ret room_1 l) {dflt lo hi : Int} {offs : Array Int} {len : Nat} {x : Int32} {off : Int} {tgt : Nat} (c : Int32) (hc : x = c) (hd : decode code pc = .ok (.tableswitch dflt lo hi offs, len)) (h1 : ¬ c.toInt < lo) (h2 : ¬ hi < c.toInt) (ho : offs[(c.toInt - lo).toNat]? = some off) (ht : (pc : Int) + off = (tgt : Int)) (kk : lx_G X tgt lv st P) : lx_G X pc lv (.int x :: st) P := by
  subst hc
  intro H locs ls hP hS hl
  exact lv_tableIn hX.1 hX.2.1 hd h1 h2 ho ht (kk H locs ls hP hS hl)
theorem lx_swo (hX : sx_C X K0 code 4 R_law ret room_1 l) {dflt lo hi : Int} {offs : Array Int} {len : Nat} {x : Int32} {tgt : Nat} (hd : decode code pc = .ok (.tableswitch dflt lo hi offs, len)) (h : x.toInt < lo ∨ hi < x.toInt) (ht : (pc : Int) + dflt = (tgt : Int)) (kk : lx_G X tgt lv st P) : lx_G X pc lv (.int x :: st) P := by
  intro H locs ls hP hS hl
  exact lv_tableOut hX.1 hX.2.1 hd h ht (kk H locs ls hP hS hl)
theorem lx_pre {U : State} {H : Heap} {locs : List Loc} {av : List Value} (hs : sx_S K (sx_s X)) (hA : ∀ q, sx_A K q → lx_A X q) (hP : sx_H K σ τ H) (hS : va_S (lx_A X) (sx_s X).heap H locs) (hU : U.heap = H) (hW : (sx_s X).WarmedH U.vm) : sx_Pc K av σ τ av.toArray U :=
  ⟨rfl, ⟨hs.1, va_K.moved hW.alike hs.2.1, by rw [hU]; exact (hs.2.2.1.kept (fun a h1 _ => hS.2.1 a h1 (Nat.not_le.mpr h1))).moved hW.alike, hs.2.2.2.warm hW⟩, by rw [hU]; exact hP⟩
/-- a call of one side leaves the other as it was -/
theorem lx_call {y : MethodName} {cc2 : ByteArray} {maxL2 index : Nat} {ret2 : Option FieldType} {rm2 : Room} {As st0 : List Value} {Q : Int32 → sx_M → sx_L → Prop} (hX : sx_C X K0 code 4 R_law ret room_1 l) (hs : sx_S K (sx_s X)) (hs1 : sx_S K1 (sx_s X)) (hA : ∀ q, sx_A K q → lx_A X q) (hD : ∀ q, sx_A K1 q → ¬ sx_A K q) (hM : Met l y (sx_wd y cc2 maxL2 ret2) rm2 (sx_Pc K (.ref (K.2.2.1 k n p) :: As) σ τ) (sx_Qi K Q) 0 0 (sx_A K)) (hm : (k, n, p) ∈ K.2.2.2) {ci N : Nat} {fs : List Value} {Cn : String} {T : u_T} (he : sx_en K k n p (σ k n p) (τ k) = .inr (ci, fs)) (hc : kx_cl[ci]? = some (Cn, T, N)) (hinst : Cond.instanceMethod y ∈ lw_g) (hsel : Cond.selects Cn y y ∈ lw_g) (hy : y.cls ≠ "java/lang/invoke/MethodHandle" ∧ y.cls ≠ "java/lang/invoke/VarHandle" ∧ (parseMethodDescriptor y.desc).map (fun d => d.parameters.length) = some As.length) (hcode : Cond.code y cc2 maxL2 ret2 ∈ lw_g) (hini : Cond.initialized y.cls ∈ lw_g) (hlink : Cond.methodLink R_law index y ∈ lw_g) (hr : rm2.cells = 0 ∧ rm2.slots = 0) (hR : rm2.frames + 1 ≤ room_1.frames ∧ 8 + (maxL2 + 11) + rm2.locals ≤ room_1.locals) (hst : (st.map fun v => v.category).sum ≤ 8) (hs0 : st0 = As.reverse ++ .ref (K.2.2.1 k n p) :: st) (hd : decode code pc = .ok (.invokevirtual index, 3)) (hp : pc + 3 = pc2) (hP1 : ∀ H, P H → sx_H K σ τ H ∧ sx_H K1 σ1 τ1 H) (kk : ∀ (r : Int32) (σ2 : sx_M) (τ2 : sx_L), Q r σ2 τ2 → lx_G X pc2 lv (.int r :: st) (fun H => sx_H K σ2 τ2 H ∧ sx_H K1 σ1 τ1 H)) : lx_G X pc lv st0 P := by
  subst hp
  subst hs0
  obtain ⟨rfl, hX2⟩ : sx_l X = l ∧ True := ⟨hX.2.2.2.2.2.2.2.2.1, trivial⟩
  intro H locs ls hP hS hl
  obtain ⟨hPa, hPb⟩ := hP1 H hP
  have hrec : ∃ cell : Cell, H[K.2.2.1 k n p]? = some cell ∧ cell.vm.isStatics = false ∧ (sx_s X).vm.findClass Cn = some cell.cls := by
    obtain ⟨q0, hq, hq2⟩ := sx_at hm σ τ
    rw [he] at hq2
    exact va_recv hs.2.1 hPa hc hq2
  exact va_calli (va_runV (As := As) (rest := st) ⟨hX.1, hX.2.1, hX.2.2.2.1, hX.2.2.2.2.1, hX.2.2.2.2.2.1⟩ hM ⟨callB_of As.length hX.2.2.2.2.2.1 (sx_wg hcode) rfl hr.1 hr.2 (hX.2.2.2.2.2.1 _ hini) (hX.2.2.2.2.2.1 _ hlink) hy (by rw [hX.2.2.2.2.2.2.2.1]; exact hR), hX.2.2.2.2.2.1 _ hinst, hX.2.2.2.2.2.1 _ hsel⟩ ⟨sx_blind, hrec, fun U hU hW => lx_pre hs hA hPa hS hU hW⟩ rfl rfl hl.1 rfl (lv_room hst) hd hX.2.2.2.2.2.2.1.2) hS (fun q _ h => hA q h) (fun q h => hA q h) (fun r u t H1 locs1 ht hvm hw hB hz1 hk1 hS1 => kk r u.1 u.2 hw H1 locs1 ls ⟨by have h : sx_H K u.1 u.2 t.heap := hB; rw [ht] at h; exact h, va_P.kept hPb (fun a q ha => hk1 q.1 (hPb a q ha).lt (hD q.1 ((sx_D hs1.1 σ1 τ1).2 a q ha)))⟩ hS1 hl)
theorem lx_sld (C : lx_C X KC KR b L xs l) {v : Int32} {j : Nat} (hv : v = nI j) (hj : j < L) (hd : decode code pc = .ok (.iaload, 1)) (hp : pc + 1 = pc2) (kk : lx_G X pc2 lv (.int (xs j) :: st) P) : lx_G X pc lv (.int v :: .ref b :: st) P := by
  subst hp
  have hL := C.2.2.1.2.2
  intro H locs ls hP hS hl
  refine va_sld C.1.1 C.1.2.1 C.2.2.1.1 C.2.2.1.2.1 (Nat.not_le.mpr C.2.2.1.2.1) hS (in_I hv hj (by omega)) hd ?_
  rw [cl_I hv (by omega)]
  exact kk H locs ls hP hS hl
theorem lx_slen (C : lx_C X KC KR b L xs l) (hd : decode code pc = .ok (.arraylength, 1)) (hp : pc + 1 = pc2) (kk : lx_G X pc2 lv (.int (nI L) :: st) P) : lx_G X pc lv (.ref b :: st) P := by
  subst hp
  intro H locs ls hP hS hl
  exact va_slen C.1.1 C.1.2.1 C.2.2.1.1 C.2.2.1.2.1 (Nat.not_le.mpr C.2.2.1.2.1) hS hd (kk H locs ls hP hS hl)
/-- an argument out of the script -/
theorem lx_arg (C : lx_C X KC KR b L xs l) {k pc1 pc3 pc4 pc5 : Nat} {n : Int} (hi : i + 6 ≤ L) (hk : k < 6) (d0 : decode code pc = .ok (.aload_n 0, 1)) (d1 : decode code pc1 = .ok (.iload_n 3, 1)) (d2 : decode code pc2 = .ok (.iconst n, 1)) (d3 : decode code pc3 = .ok (.iadd, 1)) (d4 : decode code pc4 = .ok (.iaload, 1)) (hn : n = (k : Int)) (e1 : pc + 1 = pc1) (e2 : pc1 + 1 = pc2) (e3 : pc2 + 1 = pc3) (e4 : pc3 + 1 = pc4 ∧ pc4 + 1 = pc5) (kk : lx_G X pc5 (lx_lv KC KR b i) (.int (xs (i + k)) :: st) P) : lx_G X pc (lx_lv KC KR b i) st P := by
  have hL := C.2.2.1.2.2
  subst hn
  refine sx_aload_n C.1 1 d0 rfl rfl e1 ?_
  refine sx_iload_n C.1 0 d1 rfl rfl e2 ?_
  refine sx_iconst (v := nI k) C.1 d2 rfl e3 ?_
  refine sx_iadd C.1 d3 e4.1 ?_
  exact lx_sld C (nI_add i k) (by omega) d4 e4.2 kk
theorem lx_flag (C : lx_C X KC KR b L xs l) {x : Int32} {pc3 pc4 pc7 pc8 : Nat} (d0 : decode code pc = .ok (.ifCond .eq 7, 3)) (d1 : decode code pc3 = .ok (.iconst 1, 1)) (d2 : decode code pc4 = .ok (.goto 4, 3)) (d3 : decode code pc7 = .ok (.iconst 0, 1)) (e1 : pc + 3 = pc3) (e2 : pc3 + 1 = pc4) (e3 : pc4 + 3 = pc7 ∧ pc7 + 1 = pc8) (kk : lx_G X pc8 lv (.int (lx_b x) :: st) P) : lx_G X pc lv (.int x :: st) P := by
  refine sx_if_eq (tgt := pc7) C.1 d0 (by omega) e1 (fun hx => ?_) (fun hx => ?_)
  · refine sx_iconst (v := 0) C.1 d3 rfl e3.2 ?_
    rw [show lx_b x = 0 from if_pos hx] at kk
    exact kk
  · refine sx_iconst (v := 1) C.1 d1 rfl e2 ?_
    refine sx_goto (tgt := pc8) C.1 d2 (by omega) ?_
    rw [show lx_b x = 1 from if_neg hx] at kk
    exact kk
end LAWA
