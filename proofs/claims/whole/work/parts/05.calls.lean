abbrev sx_B (K : sx_K) : sx_M × sx_L → State → Prop := fun u t => sx_H K u.1 u.2 t.heap
abbrev sx_Pc (K : sx_K) (av : List Value) (σ : sx_M) (τ : sx_L) : Array Value → State → Prop := va_Pc av (fun U => sx_S K U ∧ sx_H K σ τ U.heap)
/-- the ends of a method -/
abbrev sx_Qi (K : sx_K) (Q : Int32 → sx_M → sx_L → Prop) : Array Value → State → Outcome → State → Prop := va_Qi (fun r (u : sx_M × sx_L) => Q r u.1 u.2) (sx_B K) (sx_A K)
abbrev sx_Ql (K : sx_K) (Q : Int64 → sx_M → sx_L → Prop) : Array Value → State → Outcome → State → Prop := va_Ql (fun r (u : sx_M × sx_L) => Q r u.1 u.2) (sx_B K) (sx_A K)
abbrev sx_Qv (K : sx_K) (Q : sx_M → sx_L → Prop) : Array Value → State → Outcome → State → Prop := va_Qv (fun (u : sx_M × sx_L) => Q u.1 u.2) (sx_B K) (sx_A K)
/-- a text as an answer: its number -/
abbrev sx_Qs (K : sx_K) (Q : Int32 → sx_M → sx_L → Prop) : Array Value → State → Outcome → State → Prop := va_Qr (fun (u : Int32 × sx_M × sx_L) => Q u.1 u.2.1 u.2.2) (fun (u : Int32 × sx_M × sx_L) a t => a = K.2.2.1 40 u.1.toNatClampNeg 0 ∧ sx_H K u.2.1 u.2.2 t.heap) (sx_A K)
def sx_E (X : sx_T) (K : sx_K) (Qc : Array Value → State → Outcome → State → Prop) : Prop := sx_q X = MQ (sx_b X) Qc (sx_a X) (sx_s X) (sx_n1 X) (sx_n2 X) (sx_A K)
theorem sx_met {l : Launch} {y : MethodName} {cc : ByteArray} {maxL : Nat} {ret : Option FieldType} {rm : Room} {K : sx_K} {σ : sx_M} {τ : sx_L} {av : List Value} {Qc : Array Value → State → Outcome → State → Prop} (hy : plainName y.cls = true) (hlen : (lg_sl av).length ≤ maxL) (body : ∀ X : sx_T, sx_C X K cc maxL y.cls ret rm l → sx_E X K Qc → sx_G X K maxL 0 (lv_args 0 av) [] (sx_H K σ τ)) : Met l y (sx_wd y cc maxL ret) rm (sx_Pc K av σ τ) Qc 0 0 (sx_A K) := by
  refine Met.ofW (cc := cc) (maxL := maxL) (ret := ret) hy rfl ?_
  intro p e s m args below meth c s₁ B hml hv
  obtain ⟨rfl, hS, hH⟩ := hv
  have hts := atoms_spec (ws := sx_wd y cc maxL ret) B.pre
  have hl := lv_entry av (n := maxL) hlen
  have h := body (p, l, e, rm, s, m, av.toArray, below, meth, c, MQ below Qc av.toArray s 0 0 (sx_A K), 0, 0) ⟨B.exec, B.bytes, B.returns, hml, findClass_of_methodNamed B.named, fun w hw => hts w (List.mem_cons_of_mem _ hw), ⟨B.notSynchronized, Nat.zero_le _, Nat.zero_le _⟩, rfl, rfl, hS⟩ rfl
  rw [lg_entry_eq]
  exact h s.heap [] _ hH va_S.rf hl
section SXC
variable {X : sx_T} {K : sx_K} {cc : ByteArray} {nL : Nat} {own : String} {ret : Option FieldType} {rm : Room} {l : Launch} {pc pc2 : Nat} {lv : List (Nat × Value)} {st : List Value} {σ : sx_M} {τ : sx_L} {k n p : Nat}
theorem sx_iret (hX : sx_C X K cc nL own (some .int) rm l) {Q : Int32 → sx_M → sx_L → Prop} (hE : sx_E X K (sx_Qi K Q)) {v : Int32} (hq : Q v σ τ) (hd : decode cc pc = .ok (.ireturn, 1)) : sx_G X K nL pc lv [.int v] (sx_H K σ τ) := by
  intro H locs ls hP hS hl
  show W _ _ _ _ _ _ _ _ _ _ _ _ _ _ (sx_q X) _
  rw [hE]
  exact W.iret hX.1 hX.2.1 hX.2.2.1 (fun t ht hW => ⟨⟨v, (σ, τ), rfl, hq, by show sx_H K σ τ t.heap; rw [ht]; exact hP⟩, hS.F ht⟩) hS.2.2 hd hX.2.2.2.2.2.2.1.1
theorem sx_zret (hX : sx_C X K cc nL own (some .boolean) rm l) {Q : Int32 → sx_M → sx_L → Prop} (hE : sx_E X K (sx_Qi K Q)) {v : Int32} (hb : v = 0 ∨ v = 1) (hq : Q v σ τ) (hd : decode cc pc = .ok (.ireturn, 1)) : sx_G X K nL pc lv [.int v] (sx_H K σ τ) := by
  intro H locs ls hP hS hl
  show W _ _ _ _ _ _ _ _ _ _ _ _ _ _ (sx_q X) _
  rw [hE]
  exact W.zret hX.1 hX.2.1 hX.2.2.1 (by rcases hb with rfl | rfl <;> rfl) (fun t ht hW => ⟨⟨v, (σ, τ), rfl, hq, by show sx_H K σ τ t.heap; rw [ht]; exact hP⟩, hS.F ht⟩) hS.2.2 hd hX.2.2.2.2.2.2.1.1
theorem sx_lret (hX : sx_C X K cc nL own (some .long) rm l) {Q : Int64 → sx_M → sx_L → Prop} (hE : sx_E X K (sx_Ql K Q)) {v : Int64} (hq : Q v σ τ) (hd : decode cc pc = .ok (.lreturn, 1)) : sx_G X K nL pc lv [.long v] (sx_H K σ τ) := by
  intro H locs ls hP hS hl
  show W _ _ _ _ _ _ _ _ _ _ _ _ _ _ (sx_q X) _
  rw [hE]
  exact W.lret hX.1 hX.2.1 hX.2.2.1 (fun t ht hW => ⟨⟨v, (σ, τ), rfl, hq, by show sx_H K σ τ t.heap; rw [ht]; exact hP⟩, hS.F ht⟩) hS.2.2 hd hX.2.2.2.2.2.2.1.1
theorem sx_vret (hX : sx_C X K cc nL own none rm l) {Q : sx_M → sx_L → Prop} (hE : sx_E X K (sx_Qv K Q)) (hq : Q σ τ) (hd : decode cc pc = .ok (.return_, 1)) : sx_G X K nL pc lv [] (sx_H K σ τ) := by
  intro H locs ls hP hS hl
  show W _ _ _ _ _ _ _ _ _ _ _ _ _ _ (sx_q X) _
  rw [hE]
  exact W.vret hX.1 hX.2.1 hX.2.2.1 (fun t ht hW => ⟨⟨(σ, τ), rfl, hq, by show sx_H K σ τ t.heap; rw [ht]; exact hP⟩, hS.F ht⟩) hS.2.2 hd hX.2.2.2.2.2.2.1.1
theorem sx_sret {C : String} (hX : sx_C X K cc nL own (some (.object C)) rm l) {Q : Int32 → sx_M → sx_L → Prop} (hE : sx_E X K (sx_Qs K Q)) (v : Int32) {a : Nat} (ha : K.2.2.1 40 v.toNatClampNeg 0 = a) (hq : Q v σ τ) (hd : decode cc pc = .ok (.areturn, 1)) : sx_G X K nL pc lv [.ref a] (sx_H K σ τ) := by
  intro H locs ls hP hS hl
  show W _ _ _ _ _ _ _ _ _ _ _ _ _ _ (sx_q X) _
  rw [hE]
  exact W.aret hX.1 hX.2.1 hX.2.2.1 (Or.inl ⟨_, rfl⟩) (Or.inr ⟨_, rfl⟩) (fun t ht hW => ⟨⟨(v, σ, τ), a, rfl, hq, ha.symm, by show sx_H K σ τ t.heap; rw [ht]; exact hP⟩, hS.F ht⟩) hS.2.2 hd hX.2.2.2.2.2.2.1.1
theorem sx_pre {s U : State} {H : Heap} {locs : List Loc} {av : List Value} (hs : sx_S K s) (hP : sx_H K σ τ H) (hS : va_S (sx_A K) s.heap H locs) (hU : U.heap = H) (hW : s.WarmedH U.vm) : sx_Pc K av σ τ av.toArray U := ⟨rfl, hs.at hW hS hU, by rw [hU]; exact hP⟩
theorem sx_blind {av : List Value} : FrameBlind (sx_Pc K av σ τ) := fun a U g mk q => ⟨q.1, q.2.1.calling, q.2.2⟩
theorem sx_recv (hX : sx_C X K cc nL own ret rm l) (hm : (k, n, p) ∈ K.2.2.2) {ci N : Nat} {fs : List Value} {C : String} {T : u_T} (he : sx_en K k n p (σ k n p) (τ k) = .inr (ci, fs)) (hc : kx_cl[ci]? = some (C, T, N)) {H : Heap} (hP : sx_H K σ τ H) : ∃ cell : Cell, H[K.2.2.1 k n p]? = some cell ∧ cell.vm.isStatics = false ∧ (sx_s X).vm.findClass C = some cell.cls := by
  obtain ⟨q0, hq, hq2⟩ := sx_at hm σ τ
  rw [he] at hq2
  exact va_recv hX.2.2.2.2.2.2.2.2.2.2.1 hP hc hq2
theorem sx_callVi {y : MethodName} {cc2 : ByteArray} {maxL2 index : Nat} {ret2 : Option FieldType} {rm2 : Room} {As st0 : List Value} {Q : Int32 → sx_M → sx_L → Prop} (hX : sx_C X K cc nL own ret rm l) (hM : Met l y (sx_wd y cc2 maxL2 ret2) rm2 (sx_Pc K (.ref (K.2.2.1 k n p) :: As) σ τ) (sx_Qi K Q) 0 0 (sx_A K)) (hm : (k, n, p) ∈ K.2.2.2) {ci N : Nat} {fs : List Value} {C : String} {T : u_T} (he : sx_en K k n p (σ k n p) (τ k) = .inr (ci, fs)) (hc : kx_cl[ci]? = some (C, T, N)) (hinst : Cond.instanceMethod y ∈ lw_g) (hsel : Cond.selects C y y ∈ lw_g) (hy : y.cls ≠ "java/lang/invoke/MethodHandle" ∧ y.cls ≠ "java/lang/invoke/VarHandle" ∧ (parseMethodDescriptor y.desc).map (fun d => d.parameters.length) = some As.length) (hcode : Cond.code y cc2 maxL2 ret2 ∈ lw_g) (hini : Cond.initialized y.cls ∈ lw_g) (hlink : Cond.methodLink own index y ∈ lw_g) (hr : rm2.cells = 0 ∧ rm2.slots = 0) (hR : rm2.frames + 1 ≤ rm.frames ∧ 8 + (maxL2 + 11) + rm2.locals ≤ rm.locals) (hst : (st.map fun v => v.category).sum ≤ 8) (hs : st0 = As.reverse ++ .ref (K.2.2.1 k n p) :: st) (hd : decode cc pc = .ok (.invokevirtual index, 3)) (hp : pc + 3 = pc2) (kk : ∀ (r : Int32) (σ2 : sx_M) (τ2 : sx_L), Q r σ2 τ2 → sx_G X K nL pc2 lv (.int r :: st) (sx_H K σ2 τ2)) : sx_G X K nL pc lv st0 (sx_H K σ τ) := by
  subst hp
  subst hs
  obtain ⟨rfl, hX2⟩ : sx_l X = l ∧ True := ⟨hX.2.2.2.2.2.2.2.2.1, trivial⟩
  intro H locs ls hP hS hl
  exact va_calli (va_runV (As := As) (rest := st) ⟨hX.1, hX.2.1, hX.2.2.2.1, hX.2.2.2.2.1, hX.2.2.2.2.2.1⟩ hM ⟨callB_of As.length hX.2.2.2.2.2.1 (sx_wg hcode) rfl hr.1 hr.2 (hX.2.2.2.2.2.1 _ hini) (hX.2.2.2.2.2.1 _ hlink) hy (by rw [hX.2.2.2.2.2.2.2.1]; exact hR), hX.2.2.2.2.2.1 _ hinst, hX.2.2.2.2.2.1 _ hsel⟩ ⟨sx_blind, sx_recv hX hm he hc hP, fun U hU hW => sx_pre hX.2.2.2.2.2.2.2.2.2 hP hS hU hW⟩ rfl rfl hl.1 rfl (lv_room hst) hd hX.2.2.2.2.2.2.1.2) hS (fun q _ h => h) (fun q h => h) (fun r u t H1 locs1 ht hvm hw hB hz1 hk1 hS1 => kk r u.1 u.2 hw H1 locs1 ls (by have h : sx_H K u.1 u.2 t.heap := hB; rw [ht] at h; exact h) hS1 hl)
theorem sx_callVl {y : MethodName} {cc2 : ByteArray} {maxL2 index : Nat} {ret2 : Option FieldType} {rm2 : Room} {As st0 : List Value} {Q : Int64 → sx_M → sx_L → Prop} (hX : sx_C X K cc nL own ret rm l) (hM : Met l y (sx_wd y cc2 maxL2 ret2) rm2 (sx_Pc K (.ref (K.2.2.1 k n p) :: As) σ τ) (sx_Ql K Q) 0 0 (sx_A K)) (hm : (k, n, p) ∈ K.2.2.2) {ci N : Nat} {fs : List Value} {C : String} {T : u_T} (he : sx_en K k n p (σ k n p) (τ k) = .inr (ci, fs)) (hc : kx_cl[ci]? = some (C, T, N)) (hinst : Cond.instanceMethod y ∈ lw_g) (hsel : Cond.selects C y y ∈ lw_g) (hy : y.cls ≠ "java/lang/invoke/MethodHandle" ∧ y.cls ≠ "java/lang/invoke/VarHandle" ∧ (parseMethodDescriptor y.desc).map (fun d => d.parameters.length) = some As.length) (hcode : Cond.code y cc2 maxL2 ret2 ∈ lw_g) (hini : Cond.initialized y.cls ∈ lw_g) (hlink : Cond.methodLink own index y ∈ lw_g) (hr : rm2.cells = 0 ∧ rm2.slots = 0) (hR : rm2.frames + 1 ≤ rm.frames ∧ 8 + (maxL2 + 11) + rm2.locals ≤ rm.locals) (hst : (st.map fun v => v.category).sum ≤ 8) (hs : st0 = As.reverse ++ .ref (K.2.2.1 k n p) :: st) (hd : decode cc pc = .ok (.invokevirtual index, 3)) (hp : pc + 3 = pc2) (kk : ∀ (r : Int64) (σ2 : sx_M) (τ2 : sx_L), Q r σ2 τ2 → sx_G X K nL pc2 lv (.long r :: st) (sx_H K σ2 τ2)) : sx_G X K nL pc lv st0 (sx_H K σ τ) := by
  subst hp
  subst hs
  obtain ⟨rfl, hX2⟩ : sx_l X = l ∧ True := ⟨hX.2.2.2.2.2.2.2.2.1, trivial⟩
  intro H locs ls hP hS hl
  exact va_calll (va_runV (As := As) (rest := st) ⟨hX.1, hX.2.1, hX.2.2.2.1, hX.2.2.2.2.1, hX.2.2.2.2.2.1⟩ hM ⟨callB_of As.length hX.2.2.2.2.2.1 (sx_wg hcode) rfl hr.1 hr.2 (hX.2.2.2.2.2.1 _ hini) (hX.2.2.2.2.2.1 _ hlink) hy (by rw [hX.2.2.2.2.2.2.2.1]; exact hR), hX.2.2.2.2.2.1 _ hinst, hX.2.2.2.2.2.1 _ hsel⟩ ⟨sx_blind, sx_recv hX hm he hc hP, fun U hU hW => sx_pre hX.2.2.2.2.2.2.2.2.2 hP hS hU hW⟩ rfl rfl hl.1 rfl (lv_room hst) hd hX.2.2.2.2.2.2.1.2) hS (fun q _ h => h) (fun q h => h) (fun r u t H1 locs1 ht hvm hw hB hz1 hk1 hS1 => kk r u.1 u.2 hw H1 locs1 ls (by have h : sx_H K u.1 u.2 t.heap := hB; rw [ht] at h; exact h) hS1 hl)
theorem sx_callVv {y : MethodName} {cc2 : ByteArray} {maxL2 index : Nat} {ret2 : Option FieldType} {rm2 : Room} {As st0 : List Value} {Q : sx_M → sx_L → Prop} (hX : sx_C X K cc nL own ret rm l) (hM : Met l y (sx_wd y cc2 maxL2 ret2) rm2 (sx_Pc K (.ref (K.2.2.1 k n p) :: As) σ τ) (sx_Qv K Q) 0 0 (sx_A K)) (hm : (k, n, p) ∈ K.2.2.2) {ci N : Nat} {fs : List Value} {C : String} {T : u_T} (he : sx_en K k n p (σ k n p) (τ k) = .inr (ci, fs)) (hc : kx_cl[ci]? = some (C, T, N)) (hinst : Cond.instanceMethod y ∈ lw_g) (hsel : Cond.selects C y y ∈ lw_g) (hy : y.cls ≠ "java/lang/invoke/MethodHandle" ∧ y.cls ≠ "java/lang/invoke/VarHandle" ∧ (parseMethodDescriptor y.desc).map (fun d => d.parameters.length) = some As.length) (hcode : Cond.code y cc2 maxL2 ret2 ∈ lw_g) (hini : Cond.initialized y.cls ∈ lw_g) (hlink : Cond.methodLink own index y ∈ lw_g) (hr : rm2.cells = 0 ∧ rm2.slots = 0) (hR : rm2.frames + 1 ≤ rm.frames ∧ 8 + (maxL2 + 11) + rm2.locals ≤ rm.locals) (hst : (st.map fun v => v.category).sum ≤ 8) (hs : st0 = As.reverse ++ .ref (K.2.2.1 k n p) :: st) (hd : decode cc pc = .ok (.invokevirtual index, 3)) (hp : pc + 3 = pc2) (kk : ∀ (σ2 : sx_M) (τ2 : sx_L), Q σ2 τ2 → sx_G X K nL pc2 lv st (sx_H K σ2 τ2)) : sx_G X K nL pc lv st0 (sx_H K σ τ) := by
  subst hp
  subst hs
  obtain ⟨rfl, hX2⟩ : sx_l X = l ∧ True := ⟨hX.2.2.2.2.2.2.2.2.1, trivial⟩
  intro H locs ls hP hS hl
  exact va_callv (va_runV (As := As) (rest := st) ⟨hX.1, hX.2.1, hX.2.2.2.1, hX.2.2.2.2.1, hX.2.2.2.2.2.1⟩ hM ⟨callB_of As.length hX.2.2.2.2.2.1 (sx_wg hcode) rfl hr.1 hr.2 (hX.2.2.2.2.2.1 _ hini) (hX.2.2.2.2.2.1 _ hlink) hy (by rw [hX.2.2.2.2.2.2.2.1]; exact hR), hX.2.2.2.2.2.1 _ hinst, hX.2.2.2.2.2.1 _ hsel⟩ ⟨sx_blind, sx_recv hX hm he hc hP, fun U hU hW => sx_pre hX.2.2.2.2.2.2.2.2.2 hP hS hU hW⟩ rfl rfl hl.1 rfl (lv_room hst) hd hX.2.2.2.2.2.2.1.2) hS (fun q _ h => h) (fun q h => h) (fun u t H1 locs1 ht hvm hw hB hz1 hk1 hS1 => kk u.1 u.2 hw H1 locs1 ls (by have h : sx_H K u.1 u.2 t.heap := hB; rw [ht] at h; exact h) hS1 hl)
theorem sx_callVs {y : MethodName} {cc2 : ByteArray} {maxL2 index : Nat} {ret2 : Option FieldType} {rm2 : Room} {As st0 : List Value} {Q : Int32 → sx_M → sx_L → Prop} (hX : sx_C X K cc nL own ret rm l) (hM : Met l y (sx_wd y cc2 maxL2 ret2) rm2 (sx_Pc K (.ref (K.2.2.1 k n p) :: As) σ τ) (sx_Qs K Q) 0 0 (sx_A K)) (hm : (k, n, p) ∈ K.2.2.2) {ci N : Nat} {fs : List Value} {C : String} {T : u_T} (he : sx_en K k n p (σ k n p) (τ k) = .inr (ci, fs)) (hc : kx_cl[ci]? = some (C, T, N)) (hinst : Cond.instanceMethod y ∈ lw_g) (hsel : Cond.selects C y y ∈ lw_g) (hy : y.cls ≠ "java/lang/invoke/MethodHandle" ∧ y.cls ≠ "java/lang/invoke/VarHandle" ∧ (parseMethodDescriptor y.desc).map (fun d => d.parameters.length) = some As.length) (hcode : Cond.code y cc2 maxL2 ret2 ∈ lw_g) (hini : Cond.initialized y.cls ∈ lw_g) (hlink : Cond.methodLink own index y ∈ lw_g) (hr : rm2.cells = 0 ∧ rm2.slots = 0) (hR : rm2.frames + 1 ≤ rm.frames ∧ 8 + (maxL2 + 11) + rm2.locals ≤ rm.locals) (hst : (st.map fun v => v.category).sum ≤ 8) (hs : st0 = As.reverse ++ .ref (K.2.2.1 k n p) :: st) (hd : decode cc pc = .ok (.invokevirtual index, 3)) (hp : pc + 3 = pc2) (kk : ∀ (r : Int32) (σ2 : sx_M) (τ2 : sx_L), Q r σ2 τ2 → sx_G X K nL pc2 lv (.ref (K.2.2.1 40 r.toNatClampNeg 0) :: st) (sx_H K σ2 τ2)) : sx_G X K nL pc lv st0 (sx_H K σ τ) := by
  subst hp
  subst hs
  obtain ⟨rfl, hX2⟩ : sx_l X = l ∧ True := ⟨hX.2.2.2.2.2.2.2.2.1, trivial⟩
  intro H locs ls hP hS hl
  exact va_callr (va_runV (As := As) (rest := st) ⟨hX.1, hX.2.1, hX.2.2.2.1, hX.2.2.2.2.1, hX.2.2.2.2.2.1⟩ hM ⟨callB_of As.length hX.2.2.2.2.2.1 (sx_wg hcode) rfl hr.1 hr.2 (hX.2.2.2.2.2.1 _ hini) (hX.2.2.2.2.2.1 _ hlink) hy (by rw [hX.2.2.2.2.2.2.2.1]; exact hR), hX.2.2.2.2.2.1 _ hinst, hX.2.2.2.2.2.1 _ hsel⟩ ⟨sx_blind, sx_recv hX hm he hc hP, fun U hU hW => sx_pre hX.2.2.2.2.2.2.2.2.2 hP hS hU hW⟩ rfl rfl hl.1 rfl (lv_room hst) hd hX.2.2.2.2.2.2.1.2) hS (fun q _ h => h) (fun q h => h) (fun u a t H1 locs1 ht hvm hw hB hz1 hk1 hS1 => by have h : a = K.2.2.1 40 u.1.toNatClampNeg 0 ∧ sx_H K u.2.1 u.2.2 t.heap := hB; obtain ⟨h1, h2⟩ := h; subst h1; rw [ht] at h2; exact kk u.1 u.2.1 u.2.2 hw H1 locs1 ls h2 hS1 hl)
theorem sx_callSi {y : MethodName} {cc2 : ByteArray} {maxL2 index : Nat} {ret2 : Option FieldType} {rm2 : Room} {As st0 : List Value} {Q : Int32 → sx_M → sx_L → Prop} (hX : sx_C X K cc nL own ret rm l) (hM : Met l y (sx_wd y cc2 maxL2 ret2) rm2 (sx_Pc K As σ τ) (sx_Qi K Q) 0 0 (sx_A K)) (hstat : Cond.static y ∈ lw_g) (hy : y.cls ≠ "java/lang/invoke/MethodHandle" ∧ y.cls ≠ "java/lang/invoke/VarHandle" ∧ (parseMethodDescriptor y.desc).map (fun d => d.parameters.length) = some As.length) (hcode : Cond.code y cc2 maxL2 ret2 ∈ lw_g) (hini : Cond.initialized y.cls ∈ lw_g) (hlink : Cond.methodLink own index y ∈ lw_g) (hr : rm2.cells = 0 ∧ rm2.slots = 0) (hR : rm2.frames + 1 ≤ rm.frames ∧ 8 + (maxL2 + 11) + rm2.locals ≤ rm.locals) (hst : (st.map fun v => v.category).sum ≤ 8) (hs : st0 = As.reverse ++ st) (hd : decode cc pc = .ok (.invokestatic index, 3)) (hp : pc + 3 = pc2) (kk : ∀ (r : Int32) (σ2 : sx_M) (τ2 : sx_L), Q r σ2 τ2 → sx_G X K nL pc2 lv (.int r :: st) (sx_H K σ2 τ2)) : sx_G X K nL pc lv st0 (sx_H K σ τ) := by
  subst hp
  subst hs
  obtain ⟨rfl, hX2⟩ : sx_l X = l ∧ True := ⟨hX.2.2.2.2.2.2.2.2.1, trivial⟩
  intro H locs ls hP hS hl
  exact va_calli (va_runS (As := As) (rest := st) ⟨hX.1, hX.2.1, hX.2.2.2.1, hX.2.2.2.2.1, hX.2.2.2.2.2.1⟩ hM ⟨callB_of As.length hX.2.2.2.2.2.1 (sx_wg hcode) rfl hr.1 hr.2 (hX.2.2.2.2.2.1 _ hini) (hX.2.2.2.2.2.1 _ hlink) hy (by rw [hX.2.2.2.2.2.2.2.1]; exact hR), hX.2.2.2.2.2.1 _ hstat⟩ ⟨sx_blind, fun U hU hW => sx_pre hX.2.2.2.2.2.2.2.2.2 hP hS hU hW⟩ rfl rfl hl.1 rfl (lv_room hst) hd hX.2.2.2.2.2.2.1.2) hS (fun q _ h => h) (fun q h => h) (fun r u t H1 locs1 ht hvm hw hB hz1 hk1 hS1 => kk r u.1 u.2 hw H1 locs1 ls (by have h : sx_H K u.1 u.2 t.heap := hB; rw [ht] at h; exact h) hS1 hl)
theorem sx_callSl {y : MethodName} {cc2 : ByteArray} {maxL2 index : Nat} {ret2 : Option FieldType} {rm2 : Room} {As st0 : List Value} {Q : Int64 → sx_M → sx_L → Prop} (hX : sx_C X K cc nL own ret rm l) (hM : Met l y (sx_wd y cc2 maxL2 ret2) rm2 (sx_Pc K As σ τ) (sx_Ql K Q) 0 0 (sx_A K)) (hstat : Cond.static y ∈ lw_g) (hy : y.cls ≠ "java/lang/invoke/MethodHandle" ∧ y.cls ≠ "java/lang/invoke/VarHandle" ∧ (parseMethodDescriptor y.desc).map (fun d => d.parameters.length) = some As.length) (hcode : Cond.code y cc2 maxL2 ret2 ∈ lw_g) (hini : Cond.initialized y.cls ∈ lw_g) (hlink : Cond.methodLink own index y ∈ lw_g) (hr : rm2.cells = 0 ∧ rm2.slots = 0) (hR : rm2.frames + 1 ≤ rm.frames ∧ 8 + (maxL2 + 11) + rm2.locals ≤ rm.locals) (hst : (st.map fun v => v.category).sum ≤ 8) (hs : st0 = As.reverse ++ st) (hd : decode cc pc = .ok (.invokestatic index, 3)) (hp : pc + 3 = pc2) (kk : ∀ (r : Int64) (σ2 : sx_M) (τ2 : sx_L), Q r σ2 τ2 → sx_G X K nL pc2 lv (.long r :: st) (sx_H K σ2 τ2)) : sx_G X K nL pc lv st0 (sx_H K σ τ) := by
  subst hp
  subst hs
  obtain ⟨rfl, hX2⟩ : sx_l X = l ∧ True := ⟨hX.2.2.2.2.2.2.2.2.1, trivial⟩
  intro H locs ls hP hS hl
  exact va_calll (va_runS (As := As) (rest := st) ⟨hX.1, hX.2.1, hX.2.2.2.1, hX.2.2.2.2.1, hX.2.2.2.2.2.1⟩ hM ⟨callB_of As.length hX.2.2.2.2.2.1 (sx_wg hcode) rfl hr.1 hr.2 (hX.2.2.2.2.2.1 _ hini) (hX.2.2.2.2.2.1 _ hlink) hy (by rw [hX.2.2.2.2.2.2.2.1]; exact hR), hX.2.2.2.2.2.1 _ hstat⟩ ⟨sx_blind, fun U hU hW => sx_pre hX.2.2.2.2.2.2.2.2.2 hP hS hU hW⟩ rfl rfl hl.1 rfl (lv_room hst) hd hX.2.2.2.2.2.2.1.2) hS (fun q _ h => h) (fun q h => h) (fun r u t H1 locs1 ht hvm hw hB hz1 hk1 hS1 => kk r u.1 u.2 hw H1 locs1 ls (by have h : sx_H K u.1 u.2 t.heap := hB; rw [ht] at h; exact h) hS1 hl)
theorem sx_callSv {y : MethodName} {cc2 : ByteArray} {maxL2 index : Nat} {ret2 : Option FieldType} {rm2 : Room} {As st0 : List Value} {Q : sx_M → sx_L → Prop} (hX : sx_C X K cc nL own ret rm l) (hM : Met l y (sx_wd y cc2 maxL2 ret2) rm2 (sx_Pc K As σ τ) (sx_Qv K Q) 0 0 (sx_A K)) (hstat : Cond.static y ∈ lw_g) (hy : y.cls ≠ "java/lang/invoke/MethodHandle" ∧ y.cls ≠ "java/lang/invoke/VarHandle" ∧ (parseMethodDescriptor y.desc).map (fun d => d.parameters.length) = some As.length) (hcode : Cond.code y cc2 maxL2 ret2 ∈ lw_g) (hini : Cond.initialized y.cls ∈ lw_g) (hlink : Cond.methodLink own index y ∈ lw_g) (hr : rm2.cells = 0 ∧ rm2.slots = 0) (hR : rm2.frames + 1 ≤ rm.frames ∧ 8 + (maxL2 + 11) + rm2.locals ≤ rm.locals) (hst : (st.map fun v => v.category).sum ≤ 8) (hs : st0 = As.reverse ++ st) (hd : decode cc pc = .ok (.invokestatic index, 3)) (hp : pc + 3 = pc2) (kk : ∀ (σ2 : sx_M) (τ2 : sx_L), Q σ2 τ2 → sx_G X K nL pc2 lv st (sx_H K σ2 τ2)) : sx_G X K nL pc lv st0 (sx_H K σ τ) := by
  subst hp
  subst hs
  obtain ⟨rfl, hX2⟩ : sx_l X = l ∧ True := ⟨hX.2.2.2.2.2.2.2.2.1, trivial⟩
  intro H locs ls hP hS hl
  exact va_callv (va_runS (As := As) (rest := st) ⟨hX.1, hX.2.1, hX.2.2.2.1, hX.2.2.2.2.1, hX.2.2.2.2.2.1⟩ hM ⟨callB_of As.length hX.2.2.2.2.2.1 (sx_wg hcode) rfl hr.1 hr.2 (hX.2.2.2.2.2.1 _ hini) (hX.2.2.2.2.2.1 _ hlink) hy (by rw [hX.2.2.2.2.2.2.2.1]; exact hR), hX.2.2.2.2.2.1 _ hstat⟩ ⟨sx_blind, fun U hU hW => sx_pre hX.2.2.2.2.2.2.2.2.2 hP hS hU hW⟩ rfl rfl hl.1 rfl (lv_room hst) hd hX.2.2.2.2.2.2.1.2) hS (fun q _ h => h) (fun q h => h) (fun u t H1 locs1 ht hvm hw hB hz1 hk1 hS1 => kk u.1 u.2 hw H1 locs1 ls (by have h : sx_H K u.1 u.2 t.heap := hB; rw [ht] at h; exact h) hS1 hl)
theorem sx_callSs {y : MethodName} {cc2 : ByteArray} {maxL2 index : Nat} {ret2 : Option FieldType} {rm2 : Room} {As st0 : List Value} {Q : Int32 → sx_M → sx_L → Prop} (hX : sx_C X K cc nL own ret rm l) (hM : Met l y (sx_wd y cc2 maxL2 ret2) rm2 (sx_Pc K As σ τ) (sx_Qs K Q) 0 0 (sx_A K)) (hstat : Cond.static y ∈ lw_g) (hy : y.cls ≠ "java/lang/invoke/MethodHandle" ∧ y.cls ≠ "java/lang/invoke/VarHandle" ∧ (parseMethodDescriptor y.desc).map (fun d => d.parameters.length) = some As.length) (hcode : Cond.code y cc2 maxL2 ret2 ∈ lw_g) (hini : Cond.initialized y.cls ∈ lw_g) (hlink : Cond.methodLink own index y ∈ lw_g) (hr : rm2.cells = 0 ∧ rm2.slots = 0) (hR : rm2.frames + 1 ≤ rm.frames ∧ 8 + (maxL2 + 11) + rm2.locals ≤ rm.locals) (hst : (st.map fun v => v.category).sum ≤ 8) (hs : st0 = As.reverse ++ st) (hd : decode cc pc = .ok (.invokestatic index, 3)) (hp : pc + 3 = pc2) (kk : ∀ (r : Int32) (σ2 : sx_M) (τ2 : sx_L), Q r σ2 τ2 → sx_G X K nL pc2 lv (.ref (K.2.2.1 40 r.toNatClampNeg 0) :: st) (sx_H K σ2 τ2)) : sx_G X K nL pc lv st0 (sx_H K σ τ) := by
  subst hp
  subst hs
  obtain ⟨rfl, hX2⟩ : sx_l X = l ∧ True := ⟨hX.2.2.2.2.2.2.2.2.1, trivial⟩
  intro H locs ls hP hS hl
  exact va_callr (va_runS (As := As) (rest := st) ⟨hX.1, hX.2.1, hX.2.2.2.1, hX.2.2.2.2.1, hX.2.2.2.2.2.1⟩ hM ⟨callB_of As.length hX.2.2.2.2.2.1 (sx_wg hcode) rfl hr.1 hr.2 (hX.2.2.2.2.2.1 _ hini) (hX.2.2.2.2.2.1 _ hlink) hy (by rw [hX.2.2.2.2.2.2.2.1]; exact hR), hX.2.2.2.2.2.1 _ hstat⟩ ⟨sx_blind, fun U hU hW => sx_pre hX.2.2.2.2.2.2.2.2.2 hP hS hU hW⟩ rfl rfl hl.1 rfl (lv_room hst) hd hX.2.2.2.2.2.2.1.2) hS (fun q _ h => h) (fun q h => h) (fun u a t H1 locs1 ht hvm hw hB hz1 hk1 hS1 => by have h : a = K.2.2.1 40 u.1.toNatClampNeg 0 ∧ sx_H K u.2.1 u.2.2 t.heap := hB; obtain ⟨h1, h2⟩ := h; subst h1; rw [ht] at h2; exact kk u.1 u.2.1 u.2.2 hw H1 locs1 ls h2 hS1 hl)
theorem sx_mmax (hX : sx_C X K cc nL own ret rm l) {index : Nat} {x y : Int32} (hlink : Cond.methodLink own index Lib.Math.max.name ∈ lw_g) (hstat : Cond.static Lib.Math.max.name ∈ lw_g) (hini : Cond.initialized "java/lang/Math" ∈ lw_g) (hcode : Cond.code Lib.Math.max.name Lib.Math.max.code 2 (some .int) ∈ lw_g) (hR : 1 ≤ rm.frames ∧ (st.map fun v => v.category).sum + 13 ≤ rm.locals) (hd : decode cc pc = .ok (.invokestatic index, 3)) (hp : pc + 3 = pc2) (kk : sx_G X K nL pc2 lv (.int (if x < y then y else x) :: st) (sx_H K σ τ)) : sx_G X K nL pc lv (.int y :: .int x :: st) (sx_H K σ τ) := by
  subst hp
  intro H locs ls hP hS hl
  exact va_mmax hX.1 hX.2.1 (hX.2.2.2.1.trans hl.1.symm) hX.2.2.2.2.1 (hX.2.2.2.2.2.1 _ hlink) (hX.2.2.2.2.2.1 _ hstat) (hX.2.2.2.2.2.1 _ hini) (hX.2.2.2.2.2.1 _ hcode) (by rw [hX.2.2.2.2.2.2.2.1]; exact hR.1) (by rw [hX.2.2.2.2.2.2.2.1]; exact hR.2) hX.2.2.2.2.2.2.1.2.1 hX.2.2.2.2.2.2.1.2.2 hd (kk H locs ls hP hS hl)
theorem sx_mmin (hX : sx_C X K cc nL own ret rm l) {index : Nat} {x y : Int32} (hlink : Cond.methodLink own index Lib.Math.min.name ∈ lw_g) (hstat : Cond.static Lib.Math.min.name ∈ lw_g) (hini : Cond.initialized "java/lang/Math" ∈ lw_g) (hcode : Cond.code Lib.Math.min.name Lib.Math.min.code 2 (some .int) ∈ lw_g) (hR : 1 ≤ rm.frames ∧ (st.map fun v => v.category).sum + 13 ≤ rm.locals) (hd : decode cc pc = .ok (.invokestatic index, 3)) (hp : pc + 3 = pc2) (kk : sx_G X K nL pc2 lv (.int (if y < x then y else x) :: st) (sx_H K σ τ)) : sx_G X K nL pc lv (.int y :: .int x :: st) (sx_H K σ τ) := by
  subst hp
  intro H locs ls hP hS hl
  exact va_mmin hX.1 hX.2.1 (hX.2.2.2.1.trans hl.1.symm) hX.2.2.2.2.1 (hX.2.2.2.2.2.1 _ hlink) (hX.2.2.2.2.2.1 _ hstat) (hX.2.2.2.2.2.1 _ hini) (hX.2.2.2.2.2.1 _ hcode) (by rw [hX.2.2.2.2.2.2.2.1]; exact hR.1) (by rw [hX.2.2.2.2.2.2.2.1]; exact hR.2) hX.2.2.2.2.2.2.1.2.1 hX.2.2.2.2.2.2.1.2.2 hd (kk H locs ls hP hS hl)
theorem sx_copy (hX : sx_C X K cc nL own ret rm l) {index k3 n3 p3 l3 l2 : Nat} {sp dp m : Int32} (hm3 : (k3, n3, p3) ∈ K.2.2.2) (hm : (k, n, p) ∈ K.2.2.2) (he3 : sx_en K k3 n3 p3 (σ k3 n3 p3) (τ k3) = .inl (K.2.1 0, l3, .inl (σ k3 n3 p3))) (he : ∀ r : Nat → Int32, sx_en K k n p r (τ k) = .inl (K.2.1 0, l2, .inl r)) (hlink : Cond.methodLink own index arraycopyName ∈ lw_g) (hnat : Cond.native arraycopyName ∈ lw_g) (hstat : Cond.static arraycopyName ∈ lw_g) (hini : Cond.initialized "java/lang/System" ∈ lw_g) (h1 : ¬ sp < 0) (h2 : ¬ dp < 0) (h3 : ¬ m < 0) (h4 : sp.toNatClampNeg + m.toNatClampNeg ≤ l3) (h5 : dp.toNatClampNeg + m.toNatClampNeg ≤ l2) (hR : 1 ≤ rm.frames ∧ (st.map fun v => v.category).sum + (nativeFrameWords "java/lang/System" "arraycopy" 5 + 11) ≤ rm.locals) (hd : decode cc pc = .ok (.invokestatic index, 3)) (hp : pc + 3 = pc2) (kk : sx_G X K nL pc2 lv st (sx_H K (sx_r σ k n p (va_cpy (σ k3 n3 p3) (σ k n p) sp.toNatClampNeg dp.toNatClampNeg m.toNatClampNeg)) τ)) : sx_G X K nL pc lv (.int m :: .int dp :: .ref (K.2.2.1 k n p) :: .int sp :: .ref (K.2.2.1 k3 n3 p3) :: st) (sx_H K σ τ) := by
  subst hp
  intro H locs ls hP hS hl
  obtain ⟨q3, hq3, hq4⟩ := sx_at hm3 σ τ
  obtain ⟨q0, hq, hq2⟩ := sx_at hm σ τ
  rw [he3] at hq4
  rw [he] at hq2
  refine va_copyi hX.1 hX.2.1 (hX.2.2.2.1.trans hl.1.symm) hX.2.2.2.2.1 (hX.2.2.2.2.2.1 _ hlink) (hX.2.2.2.2.2.1 _ hnat) (hX.2.2.2.2.2.1 _ hstat) (hX.2.2.2.2.2.1 _ hini) hX.2.2.2.2.2.2.2.2.2.2.1 hP (sx_D hX.2.2.2.2.2.2.2.2.2.1 σ τ) hS q3 q0 0 0 (ty := .int) hq4 hq2 rfl rfl rfl h1 h2 h3 h4 h5 (fun _ _ => rfl) (by rw [hX.2.2.2.2.2.2.2.1]; exact hR.1) (by rw [hX.2.2.2.2.2.2.2.1]; exact hR.2) hd (fun H1 locs1 h1 _ h3 => kk H1 locs1 ls ?_ h3 hl)
  rw [← he, sx_set hX.2.2.2.2.2.2.2.2.2.1 hq σ τ] at h1
  exact h1
theorem sx_ldcS {own2 : String} (hX : sx_C X K cc nL own2 ret rm l) {i : Nat} {tx : String} {a : Nat} (hw : vk_R own2 i tx a (sx_s X)) (hd : decode cc pc = .ok (.ldc i, 2)) (hp : pc + 2 = pc2) (k : sx_G X K nL pc2 lv (.ref a :: st) (sx_H K σ τ)) : sx_G X K nL pc lv st (sx_H K σ τ) := by
  subst hp
  intro H locs ls hP hS hl
  exact va_ldcS hX.1 hX.2.1 hX.2.2.2.2.1 hw hd (k H locs ls hP hS hl)
theorem sx_gets (hX : sx_C X K cc nL own ret rm l) {C n2 d2 : String} {v : Value} {index : Nat} (hZ : va_Z C n2 d2 v (sx_A K) (sx_s X) (sx_s X).heap) (hlink : Cond.fieldLink own index C n2 d2 ∈ lw_g) (hd : decode cc pc = .ok (.getstatic index, 3)) (hp : pc + 3 = pc2) (k : sx_G X K nL pc2 lv (v :: st) (sx_H K σ τ)) : sx_G X K nL pc lv st (sx_H K σ τ) := by
  subst hp
  intro H locs ls hP hS hl
  exact va_gets hX.1 hX.2.1 hZ hS hX.2.2.2.2.1 (hX.2.2.2.2.2.1 _ hlink) (fun _ h => h) hd (k H locs ls hP hS hl)
theorem sx_sti (hX : sx_C X K cc nL own ret rm l) {t N : Nat} {f : Nat → Int32} {i : Int32} (hT : va_T .int t N (fun j => .int (f j)) (sx_A K) (sx_s X) (sx_s X).heap) (hin : vp_in i N) (hd : decode cc pc = .ok (.iaload, 1)) (hp : pc + 1 = pc2) (k : sx_G X K nL pc2 lv (.int (f i.toNatClampNeg) :: st) (sx_H K σ τ)) : sx_G X K nL pc lv (.int i :: .ref t :: st) (sx_H K σ τ) := by
  subst hp
  intro H locs ls hP hS hl
  exact va_ti hX.1 hX.2.1 hT hS hin rfl hd (k H locs ls hP hS hl)
theorem sx_stb (hX : sx_C X K cc nL own ret rm l) {t N : Nat} {f : Nat → Int32} {i : Int32} (hT : va_T .byte t N (fun j => .int (f j)) (sx_A K) (sx_s X) (sx_s X).heap) (hin : vp_in i N) (hd : decode cc pc = .ok (.baload, 1)) (hp : pc + 1 = pc2) (k : sx_G X K nL pc2 lv (.int (f i.toNatClampNeg) :: st) (sx_H K σ τ)) : sx_G X K nL pc lv (.int i :: .ref t :: st) (sx_H K σ τ) := by
  subst hp
  intro H locs ls hP hS hl
  exact va_tb hX.1 hX.2.1 hT hS hin rfl hd (k H locs ls hP hS hl)
theorem sx_stlen (hX : sx_C X K cc nL own ret rm l) {t N : Nat} {f : Nat → Value} {ty : FieldType} {v : Int32} (hT : va_T ty t N f (sx_A K) (sx_s X) (sx_s X).heap) (hv : Int32.ofNat N = v) (hd : decode cc pc = .ok (.arraylength, 1)) (hp : pc + 1 = pc2) (k : sx_G X K nL pc2 lv (.int v :: st) (sx_H K σ τ)) : sx_G X K nL pc lv (.ref t :: st) (sx_H K σ τ) := by
  subst hp
  intro H locs ls hP hS hl
  exact va_tlen hX.1 hX.2.1 hT hS hv hd (k H locs ls hP hS hl)
theorem sx_gof (hX : sx_C X K cc nL own ret rm l) {o n2 d2 : String} {v : Value} {index t : Nat} (hE : va_OF o n2 d2 v t (sx_A K) (sx_s X) (sx_s X).heap) (hlink : Cond.fieldLink own index o n2 d2 ∈ lw_g) (hd : decode cc pc = .ok (.getfield index, 3)) (hp : pc + 3 = pc2) (k : sx_G X K nL pc2 lv (v :: st) (sx_H K σ τ)) : sx_G X K nL pc lv (.ref t :: st) (sx_H K σ τ) := by
  subst hp
  intro H locs ls hP hS hl
  exact vk_getf hX.1 hX.2.1 hE hS hX.2.2.2.2.1 (hX.2.2.2.2.2.1 _ hlink) (fun _ h => h) hd (k H locs ls hP hS hl)
end SXC
