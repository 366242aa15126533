/-- a run with its counts of cells and slots -/
abbrev ct_X (Y : sx_T) (a c : Nat) : sx_T := (sx_p Y, sx_l Y, sx_e Y, sx_rm Y, sx_s Y, sx_m Y, sx_a Y, sx_b Y, sx_h Y, sx_c Y, sx_q Y, a, c)
abbrev ct_C (Y : sx_T) (K : sx_K) (cc : ByteArray) (nL : Nat) (own : String) (ret : Option FieldType) (rm : Room) (l : Launch) : Prop := sx_C (ct_X Y 0 0) K cc nL own ret rm l
/-- cells that stand one after another -/
def ct_S (K : sx_K) (s0 : Nat) (es : List va_E) : Heap → Prop := fun H => H.size = s0 + es.length ∧ ∀ (j : Nat) (x : va_E), es[j]? = some x → va_at K.1 kx_cl (s0 + j, x) H
/-- the object that is made, and the cells that were made for it -/
def ct_W (K : sx_K) (h0 s0 : Nat) (e : va_E) (es : List va_E) : Heap → Prop := fun H => ct_S K s0 es H ∧ h0 < s0 ∧ va_at K.1 kx_cl (h0, e) H
abbrev ct_A (h0 s0 : Nat) : Nat → Prop := fun q => q = h0 ∨ s0 ≤ q
theorem ct_S.push {K : sx_K} {s0 : Nat} {es : List va_E} {x : va_E} {H H1 : Heap} (h : ct_S K s0 es H) (hz : H1.size = s0 + es.length + 1) (ho : ∀ q : Nat, q < s0 + es.length → H1[q]? = H[q]?) (hx : va_at K.1 kx_cl (s0 + es.length, x) H1) : ct_S K s0 (es ++ [x]) H1 := by
  refine ⟨by rw [hz, List.length_append]; rfl, fun j y hj => ?_⟩
  by_cases hl : j < es.length
  · rw [List.getElem?_append_left hl] at hj
    exact (h.2 j y hj).kept (ho _ (by show s0 + j < _; omega))
  · rw [List.getElem?_append_right (by omega)] at hj
    have hz1 : j - es.length < 1 := (List.getElem?_eq_some_iff.mp hj).1
    have hje : j = es.length := by omega
    subst hje
    rw [Nat.sub_self] at hj
    cases hj
    exact hx
theorem ct_S.set {K : sx_K} {s0 k : Nat} {es : List va_E} {x : va_E} {H H1 : Heap} (h : ct_S K s0 es H) (hz : H1.size = H.size) (ho : ∀ q : Nat, q ≠ s0 + k → H1[q]? = H[q]?) (hx : va_at K.1 kx_cl (s0 + k, x) H1) : ct_S K s0 (es.set k x) H1 := by
  refine ⟨by rw [hz, List.length_set]; exact h.1, fun j y hj => ?_⟩
  by_cases hl : j = k
  · subst hl
    have hlt : j < es.length := by
      have := (List.getElem?_eq_some_iff.mp hj).1
      rwa [List.length_set] at this
    rw [List.getElem?_set_self hlt] at hj
    cases hj
    exact hx
  · rw [List.getElem?_set_ne (Ne.symm hl)] at hj
    exact (h.2 j y hj).kept (ho _ (by show s0 + j ≠ _; omega))
theorem ct_S.same {K : sx_K} {s0 : Nat} {es : List va_E} {H H1 : Heap} (h : ct_S K s0 es H) (hz : H1.size = H.size) (ho : ∀ q : Nat, s0 ≤ q → H1[q]? = H[q]?) : ct_S K s0 es H1 :=
  ⟨by rw [hz]; exact h.1, fun j y hj => (h.2 j y hj).kept (ho _ (Nat.le_add_right _ _))⟩
/-- a callee's cells, behind one of ours -/
theorem ct_S.join {K : sx_K} {s0 : Nat} {es es2 : List va_E} {x y : va_E} {H H1 : Heap} (h : ct_S K s0 (es ++ [x]) H) (ho : ∀ q : Nat, q < H.size → ¬ ct_A (s0 + es.length) (s0 + es.length + 1) q → H1[q]? = H[q]?) (h2 : ct_W K (s0 + es.length) (s0 + es.length + 1) y es2 H1) : ct_S K s0 (es ++ y :: es2) H1 := by
  have hl : H.size = s0 + es.length + 1 := by rw [h.1, List.length_append]; rfl
  refine ⟨by rw [h2.1.1, List.length_append]; simp only [List.length_cons]; omega, fun j z hj => ?_⟩
  by_cases hlt : j < es.length
  · rw [List.getElem?_append_left hlt] at hj
    refine (h.2 j z (by rw [List.getElem?_append_left hlt]; exact hj)).kept (ho _ (by show s0 + j < _; omega) ?_)
    show ¬ (s0 + j = _ ∨ _ ≤ s0 + j)
    omega
  · rw [List.getElem?_append_right (by omega)] at hj
    by_cases he : j = es.length
    · subst he
      rw [Nat.sub_self] at hj
      cases hj
      exact h2.2.2
    · obtain ⟨i, hi⟩ : ∃ i, j - es.length = i + 1 := ⟨j - es.length - 1, by omega⟩
      rw [hi, List.getElem?_cons_succ] at hj
      have := h2.1.2 i z hj
      rw [show s0 + es.length + 1 + i = s0 + j by omega] at this
      exact this
theorem ct_W.push {K : sx_K} {h0 s0 : Nat} {e x : va_E} {es : List va_E} {H H1 : Heap} (h : ct_W K h0 s0 e es H) (hz : H1.size = s0 + es.length + 1) (ho : ∀ q : Nat, q < s0 + es.length → H1[q]? = H[q]?) (hx : va_at K.1 kx_cl (s0 + es.length, x) H1) : ct_W K h0 s0 e (es ++ [x]) H1 :=
  ⟨h.1.push hz ho hx, h.2.1, h.2.2.kept (ho _ (by show h0 < _; have := h.2.1; omega))⟩
theorem ct_W.put {K : sx_K} {h0 s0 : Nat} {e x : va_E} {es : List va_E} {H H1 : Heap} (h : ct_W K h0 s0 e es H) (hz : H1.size = H.size) (ho : ∀ q : Nat, q ≠ h0 → H1[q]? = H[q]?) (hx : va_at K.1 kx_cl (h0, x) H1) : ct_W K h0 s0 x es H1 :=
  ⟨h.1.same hz (fun q hq => ho q (by have := h.2.1; omega)), h.2.1, hx⟩
theorem ct_W.set {K : sx_K} {h0 s0 k : Nat} {e x : va_E} {es : List va_E} {H H1 : Heap} (h : ct_W K h0 s0 e es H) (hz : H1.size = H.size) (ho : ∀ q : Nat, q ≠ s0 + k → H1[q]? = H[q]?) (hx : va_at K.1 kx_cl (s0 + k, x) H1) : ct_W K h0 s0 e (es.set k x) H1 :=
  ⟨h.1.set hz ho hx, h.2.1, h.2.2.kept (ho _ (by show h0 ≠ _; have := h.2.1; omega))⟩
theorem ct_W.join {K : sx_K} {h0 s0 : Nat} {es es2 : List va_E} {e x y : va_E} {H H1 : Heap} (h : ct_W K h0 s0 e (es ++ [x]) H) (ho : ∀ q : Nat, q < H.size → ¬ ct_A (s0 + es.length) (s0 + es.length + 1) q → H1[q]? = H[q]?) (h2 : ct_W K (s0 + es.length) (s0 + es.length + 1) y es2 H1) : ct_W K h0 s0 e (es ++ y :: es2) H1 := by
  have hl : H.size = s0 + es.length + 1 := by rw [h.1.1, List.length_append]; rfl
  have h1 := h.2.1
  refine ⟨h.1.join ho h2, h1, h.2.2.kept (ho _ (by show h0 < _; omega) ?_)⟩
  show ¬ (h0 = _ ∨ _ ≤ h0)
  omega
theorem ct_one {D : va_G} {q : Nat × va_E} {H : Heap} (h : va_at D kx_cl q H) : va_P D kx_cl [q] H := fun k x hk => by
  have hz : k < 1 := (List.getElem?_eq_some_iff.mp hk).1
  rw [show k = 0 by omega] at hk
  cases hk
  exact h
section MAKE
variable {Y : sx_T} {K : sx_K} {A : Nat → Prop} {cc : ByteArray} {nL : Nat} {own : String} {ret : Option FieldType} {rm : Room} {l : Launch} {pc pc2 a c a2 c2 h0 s0 : Nat} {lv : List (Nat × Value)} {st : List Value} {P P2 : Heap → Prop} {e : va_E} {es es2 : List va_E}
theorem ct_at (hC : ct_C Y K cc nL own ret rm l) (h : a ≤ rm.cells ∧ c ≤ rm.slots) : sx_C (ct_X Y a c) K cc nL own ret rm l := by
  have hr : sx_rm Y = rm := hC.2.2.2.2.2.2.2.1
  exact ⟨hC.1, hC.2.1, hC.2.2.1, hC.2.2.2.1, hC.2.2.2.2.1, hC.2.2.2.2.2.1, ⟨hC.2.2.2.2.2.2.1.1, by show a ≤ (sx_rm Y).cells; rw [hr]; exact h.1, by show c ≤ (sx_rm Y).slots; rw [hr]; exact h.2⟩, hC.2.2.2.2.2.2.2⟩
/-- a new object -/
theorem ct_new0 (hC : ct_C Y K cc nL own ret rm l) {Cn : String} {T : u_T} {N ci index sz : Nat} {fs : List Value} (ty0 : Nat → FieldType) (hin : ∀ w ∈ u_ws Cn T N, w ∈ lw_g) (hty : ∀ k, k < N → parseFieldDescriptor (T k).2.2.1 = some (ty0 k)) (hcl : Cond.classLink own index Cn ∈ lw_g) (hinst : Cond.instantiable Cn N ∈ lw_g) (hini : Cond.initialized Cn ∈ lw_g) (hc : kx_cl[ci]? = some (Cn, T, N)) (hfs : ∀ j, j < N → defaultValue (ty0 j) = vp_V fs j) (ha : a + 1 = a2 ∧ c + N = c2) (hr : a2 ≤ rm.cells ∧ c2 ≤ rm.slots) (hd : decode cc pc = .ok (.new index, 3)) (hp : pc + 3 = pc2) (hz : ∀ H, P H → H.size = sz) (hPP : ∀ H H1, P H → H1.size = sz + 1 → (∀ q : Nat, q < sz → H1[q]? = H[q]?) → va_at K.1 kx_cl (sz, .inr (ci, fs)) H1 → P2 H1) (kk : sx_GA (ct_X Y a2 c2) A nL pc2 lv (.ref sz :: st) P2) : sx_GA (ct_X Y a c) A nL pc lv st P := by
  subst hp
  obtain ⟨rfl, rfl⟩ := ha
  have hrm : sx_rm Y = rm := hC.2.2.2.2.2.2.2.1
  intro H locs ls hP hS hl
  have hsz := hz H hP
  have hts := hC.2.2.2.2.2.1
  have hKn := hC.2.2.2.2.2.2.2.2.2.2.1.1 ci _ hc
  refine W.newcK hC.1 hC.2.1 hC.2.2.2.2.1 (hts _ hcl) (hts _ hinst) (hts _ hini) rfl hd (by rw [hrm]; exact hr.1) (by rw [hrm]; exact hr.2) hKn.2.1 hsz fun H1 kC hkC e1 z1 o1 => ?_
  have hle : (sx_s Y).heap.size ≤ sz := by rw [← hsz]; exact hS.1
  exact kk H1 locs ls (hPP H H1 hP z1 o1 ⟨_, hc, (u_born ty0 hts hin hKn hkC e1 hty).to hfs⟩) ⟨by rw [z1]; exact Nat.le_succ_of_le hle, fun x h1 h2 => (o1 x (Nat.lt_of_lt_of_le h1 hle)).trans (hS.2.1 x h1 h2), hS.2.2⟩ hl
/-- a new array of numbers -/
theorem ct_newa0 (hC : ct_C Y K cc nL own ret rm l) {atype : ArrayType} {ty : FieldType} {n : Int32} {N sz t0 : Nat} {a0 : vp_A} {cA : ClassId} (harr : Cond.arrayClass (newarray.typeOf atype) ∈ lw_g) (hty : newarray.typeOf atype = ty) (ht : (sx_ty K)[t0]? = some (cA, ty)) (ha0 : ∀ cA : ClassId, vp_cell cA a0 = arrV cA N (fun _ => defaultValue ty)) (hn : ¬ n < 0) (hN : n.toNatClampNeg = N) (hbytes : N * componentBytes ty ≤ 536870912) (ha : a + 1 = a2 ∧ c + N = c2) (hr : a2 ≤ rm.cells ∧ c2 ≤ rm.slots) (hd : decode cc pc = .ok (.newarray atype, 2)) (hp : pc + 2 = pc2) (hz : ∀ H, P H → H.size = sz) (hPP : ∀ H H1, P H → H1.size = sz + 1 → (∀ q : Nat, q < sz → H1[q]? = H[q]?) → va_at K.1 kx_cl (sz, .inl (cA, a0)) H1 → P2 H1) (kk : sx_GA (ct_X Y a2 c2) A nL pc2 lv (.ref sz :: st) P2) : sx_GA (ct_X Y a c) A nL pc lv (.int n :: st) P := by
  subst hp
  subst hty
  obtain ⟨rfl, rfl⟩ := ha
  have hrm : sx_rm Y = rm := hC.2.2.2.2.2.2.2.1
  intro H locs ls hP hS hl
  have hsz := hz H hP
  have hts := hC.2.2.2.2.2.1
  have hle : (sx_s Y).heap.size ≤ sz := by rw [← hsz]; exact hS.1
  refine va_newaK (atype := atype) hC.1 hC.2.1 (hts _ harr) rfl hd rfl hn hN hbytes (by rw [hrm]; exact hr.1) (by rw [hrm]; exact hr.2) hsz fun H1 cA2 e1 z1 o1 hAr hNm => ?_
  have hRA : va_RA (sx_s Y) cA (newarray.typeOf atype) := (hC.2.2.2.2.2.2.2.2.2.2.1.2 t0 _ ht).2
  have hRA2 : (sx_s Y).vm.findClass ("[" ++ (newarray.typeOf atype).toString) = some cA := by cases atype <;> exact hRA
  have hcA : cA2 = cA := Option.some.inj (hNm.symm.trans hRA2)
  subst hcA
  refine kk H1 locs ls (hPP H H1 hP z1 o1 ?_) ⟨by rw [z1]; exact Nat.le_succ_of_le hle, fun x h1 h2 => (o1 x (Nat.lt_of_lt_of_le h1 hle)).trans (hS.2.1 x h1 h2), hS.2.2⟩ hl
  show H1[sz]? = some (vp_cell _ _)
  rw [ha0]
  exact e1
/-- a new array of references -/
theorem ct_newq0 (hC : ct_C Y K cc nL own ret rm l) {Cn : String} {index : Nat} {n : Int32} {N sz t0 : Nat} {cA : ClassId} (hcl : Cond.classLink own index Cn ∈ lw_g) (hover : va_AO Cn (sx_s Y)) (ht : (sx_ty K)[t0]? = some (cA, .object Cn)) (hn : ¬ n < 0) (hN : n.toNatClampNeg = N) (hbytes : N * 4 ≤ 536870912) (ha : a + 1 = a2 ∧ c + N = c2) (hr : a2 ≤ rm.cells ∧ c2 ≤ rm.slots) (hd : decode cc pc = .ok (.anewarray index, 3)) (hp : pc + 3 = pc2) (hz : ∀ H, P H → H.size = sz) (hPP : ∀ H H1, P H → H1.size = sz + 1 → (∀ q : Nat, q < sz → H1[q]? = H[q]?) → va_at K.1 kx_cl (sz, .inl (cA, N, .inr (.inr (.inr (.inr (fun _ => none)))))) H1 → P2 H1) (kk : sx_GA (ct_X Y a2 c2) A nL pc2 lv (.ref sz :: st) P2) : sx_GA (ct_X Y a c) A nL pc lv (.int n :: st) P := by
  subst hp
  obtain ⟨rfl, rfl⟩ := ha
  have hrm : sx_rm Y = rm := hC.2.2.2.2.2.2.2.1
  intro H locs ls hP hS hl
  have hsz := hz H hP
  have hts := hC.2.2.2.2.2.1
  have hle : (sx_s Y).heap.size ≤ sz := by rw [← hsz]; exact hS.1
  subst hN
  refine W.anew hC.1 hC.2.1 hC.2.2.2.2.1 (hts _ hcl) (va_AO.use hover) rfl hd rfl hn hbytes (by rw [hrm]; exact hr.1) (by rw [hrm]; exact hr.2) fun cA2 kA comp f1 f2 f3 f4 => ?_
  generalize hH1 : H.push ({ cls := cA2, slots := Array.replicate n.toNatClampNeg .null, vm := .none } : Cell) = H1
  have z1 : H1.size = sz + 1 := by rw [← hH1, Array.size_push, hsz]
  have e1 : H1[sz]? = some (arrV cA2 n.toNatClampNeg (fun _ => .null)) := by rw [← hH1, ← hsz, Array.getElem?_push_size, ← arrV_new]
  have o1 : ∀ q : Nat, q < sz → H1[q]? = H[q]? := fun q hq => by rw [← hH1, Array.getElem?_push, if_neg (Nat.ne_of_lt (by rw [hsz]; exact hq))]
  obtain ⟨kA3, comp3, g1, g2, g3, g4⟩ : va_RA (sx_s Y) cA (.object Cn) := (hC.2.2.2.2.2.2.2.2.2.2.1.2 t0 _ ht).2
  have hcA : cA2 = cA := Option.some.inj (f1.symm.trans g4)
  subst hcA
  have kk2 := kk H1 locs ls (hPP H H1 hP z1 o1 (by show H1[sz]? = some (vp_cell _ _); rw [e1]; rfl)) ⟨by rw [z1]; exact Nat.le_succ_of_le hle, fun x h1 h2 => (o1 x (Nat.lt_of_lt_of_le h1 hle)).trans (hS.2.1 x h1 h2), hS.2.2⟩ hl
  rw [hsz]
  exact kk2
/-- a field of the object that is made -/
theorem ct_put0 (hC : ct_C Y K cc nL own ret rm l) {Cn : String} {T : u_T} {N ci index ad : Nat} {fs : List Value} {v : Value} (ty0 : Nat → FieldType) (hin : ∀ w ∈ u_ws Cn T N, w ∈ lw_g) (hty : ∀ k, k < N → parseFieldDescriptor (T k).2.2.1 = some (ty0 k)) (hnm : ∀ x, x < N → ∀ y, y < N → x ≠ y → (T x).2.1 ≠ (T y).2.1) (hc : kx_cl[ci]? = some (Cn, T, N)) (k : Nat) (hk : k < N) (hlink : Cond.fieldLink own index Cn (T k).2.1 (T k).2.2.1 ∈ lw_g) (hown2 : (T k).1 = Cn) (hfin : (T k).2.2.2 = false ∨ ((sx_h Y).name = "<init>" ∧ (T k).1 = own)) {ty : FieldType} (htk : parseFieldDescriptor (T k).2.2.1 = some ty) (hn : narrow ty v = v) (hfit : fits ty v = true) (hl0 : k < fs.length) (hd : decode cc pc = .ok (.putfield index, 3)) (hp : pc + 3 = pc2) (hA : A ad) (hat : ∀ H, P H → va_at K.1 kx_cl (ad, .inr (ci, fs)) H) (hPP : ∀ H H1, P H → H1.size = H.size → (∀ q : Nat, q ≠ ad → H1[q]? = H[q]?) → va_at K.1 kx_cl (ad, .inr (ci, fs.set k v)) H1 → P2 H1) (kk : sx_GA (ct_X Y a c) A nL pc2 lv st P2) : sx_GA (ct_X Y a c) A nL pc lv (v :: .ref ad :: st) P := by
  subst hp
  have hts := hC.2.2.2.2.2.1
  have hK := hC.2.2.2.2.2.2.2.2.2.2.1
  intro H locs ls hP hS0 hl
  have hap := va_apart (own := own) hts hin ty0 hty hnm hK hc
  obtain ⟨r, h1, cell, q1, q2, q3, q4⟩ := hat H hP
  have hr : r = (Cn, T, N) := Option.some.inj (h1.symm.trans hc)
  subst hr
  obtain ⟨hS, hfc, kC, hkC, hkind⟩ := hK.1 ci _ hc
  obtain ⟨cf, kf, fi, f, hi, hsl⟩ := hS k hk
  have hlay := hts _ (hin _ (u_in_lay hk))
  unfold u_lay at hlay
  have hst := (u_facts hfc hkC (u_lays hts hin hk) hi).1
  have hi2 := hi
  rw [hown2] at hi2
  have fin : ∀ H' : Heap, H'[ad]? = some (cell.setSlot f.slot v) → H'.size = H.size → (∀ q : Nat, q ≠ ad → H'[q]? = H[q]?) → W (sx_p Y) (sx_l Y) (sx_e Y) (sx_rm Y) (sx_s Y) (sx_m Y) (sx_a Y) (sx_b Y) (sx_h Y) (sx_c Y) H' (locs ++ [⟨ad, f.slot⟩]) a c (sx_q Y) (F0 (sx_m Y) (pc + 3) ls st) := by
    intro H' e1 e2 e3
    rw [hsl] at e1 ⊢
    exact kk H' _ ls (hPP H H' hP e2 e3 ⟨_, hc, t_OB.to (V := updV (vp_V fs) k v) ⟨_, e1, q2, q3, t_set q4 hap hk v⟩ (fun j _ => vp_updV_set hl0 v j)⟩) (hS0.put e2 e3 hA) hl
  by_cases hb : (T k).2.2.2 = true
  · rw [if_pos hb] at hlay
    obtain ⟨hname, hdecl⟩ : (sx_h Y).name = "<init>" ∧ (T k).1 = own := hfin.resolve_left (by rw [hb]; decide)
    have hcf : (sx_m Y).cls = cf := by
      obtain ⟨_, _, c', _, _, _, -, -, hf', -, -, -, hown3, -⟩ := Cond.laysFinal_spec hlay
      have e1 : c' = cf := by have := hi.symm.trans hf'; simp at this; exact this.1.symm
      rw [hdecl] at hown3
      rw [← e1]; exact Option.some.inj (hC.2.2.2.2.1.symm.trans hown3)
    have h6 := u_fits hfc hkC hkind (Or.inr hlay) hi htk hn hfit
    exact W.putFinK hC.1 hC.2.1 hC.2.2.2.2.1 (hts _ hlink) hi2 hst hcf hname (by rw [q2]; exact h6) q1 q3 (by rw [hsl]; exact k2_hasslot (q4 k hk)) rfl rfl hd fin
  · rw [if_neg hb] at hlay
    have h6 := u_store hfc hkC hkind hlay hi htk hn hfit
    exact W.putK hC.1 hC.2.1 (f := f) ⟨hC.2.2.2.2.1, hts _ hlink, ⟨_, _, _, hi2⟩, hst⟩ (by rw [q2]; exact h6) q1 q3 (by rw [hsl]; exact k2_hasslot (q4 k hk)) rfl rfl hd fin
/-- a field is read -/
theorem ct_get0 (hC : ct_C Y K cc nL own ret rm l) {Cn : String} {T : u_T} {N ci index ad : Nat} {fs : List Value} {v : Value} (hin : ∀ w ∈ u_ws Cn T N, w ∈ lw_g) (hc : kx_cl[ci]? = some (Cn, T, N)) (k : Nat) (hk : k < N) (hlink : Cond.fieldLink own index Cn (T k).2.1 (T k).2.2.1 ∈ lw_g) (hown2 : (T k).1 = Cn) (hv : fs[k]? = some v) (hd : decode cc pc = .ok (.getfield index, 3)) (hp : pc + 3 = pc2) (hat : ∀ H, P H → va_at K.1 kx_cl (ad, .inr (ci, fs)) H) (kk : sx_GA (ct_X Y a c) A nL pc2 lv (v :: st) P) : sx_GA (ct_X Y a c) A nL pc lv (.ref ad :: st) P := by
  subst hp
  intro H locs ls hP hS hl
  exact va_get (ws := [(ad, .inr (ci, fs))]) hC.1 hC.2.1 hC.2.2.2.2.2.1 hin hC.2.2.2.2.1 hC.2.2.2.2.2.2.2.2.2.2.1 (ct_one (hat H hP)) 0 rfl hc k hk (hC.2.2.2.2.2.1 _ hlink) (fun x hx => by rw [hown2] at hx; exact hx) hv hd (kk H locs ls hP hS hl)
/-- an element of an array of references -/
theorem ct_aast0 (hC : ct_C Y K cc nL own ret rm l) {t0 ci ad v n : Nat} {cA : ClassId} {r : vw_C} {vs : List Value} {f : Nat → Option Nat} {i : Int32} (ht : (sx_ty K)[t0]? = some (cA, .object r.1)) (hc : kx_cl[ci]? = some r) (hin : vp_in i n) (hd : decode cc pc = .ok (.aastore, 1)) (hp : pc + 1 = pc2) (hA : A ad) (hat : ∀ H, P H → va_at K.1 kx_cl (ad, .inl (cA, n, .inr (.inr (.inr (.inr f))))) H ∧ va_at K.1 kx_cl (v, .inr (ci, vs)) H) (hPP : ∀ H H1, P H → H1.size = H.size → (∀ q : Nat, q ≠ ad → H1[q]? = H[q]?) → va_at K.1 kx_cl (ad, .inl (cA, n, .inr (.inr (.inr (.inr (va_up f i.toNatClampNeg (some v))))))) H1 → P2 H1) (kk : sx_GA (ct_X Y a c) A nL pc2 lv st P2) : sx_GA (ct_X Y a c) A nL pc lv (.ref v :: .int i :: .ref ad :: st) P := by
  subst hp
  have hK := hC.2.2.2.2.2.2.2.2.2.2.1
  intro H locs ls hP hS hl
  have hlt : i.toNatClampNeg < n := Nat.not_le.mp fun q => hin (Or.inr q)
  have hi0 : ¬ i < 0 := fun q => hin (Or.inl q)
  obtain ⟨hat1, r', hr', cellV, g1, g2, g3, -⟩ := hat H hP
  have hcls := (hK.1 ci r hc).2
  obtain ⟨kA, comp, k1, k2, k3, -⟩ := (hK.2 t0 _ ht).2
  have hcomp : comp = K.1.1 ci := Option.some.inj (k3.symm.trans hcls.1)
  subst hcomp
  obtain ⟨kC, hkC, -⟩ := hcls.2
  refine W.aast hC.1 hC.2.1 hat1 (fun q h => by cases h) (fun h => by cases h) k1 k2 rfl hkC ⟨hi0, by show _ < (arrV _ _ _).slots.size; rw [arrV_size]; exact hlt⟩ g1 (fun q h => by rw [g3] at h; cases h) (by rw [g2]; exact hkC) (by rw [g2]; exact va_assign hcls) rfl rfl hd fun H1 e1 z oq => ?_
  refine kk H1 _ ls (hPP H H1 hP z oq ?_) (hS.put z oq hA) hl
  show H1[ad]? = some (vp_cell _ _)
  rw [e1]
  rw [vp_cell_q, vp_cell_q, arrV_store]
  congr 2
  funext q
  by_cases hq : q = i.toNatClampNeg
  · subst hq
    simp [updV, va_up, va_rf]
  · simp [updV, va_up, hq]
/-- the constructor of all objects -/
theorem ct_obj (hC : ct_C Y K cc nL own ret rm l) {index ad : Nat} (hlink : Cond.methodLink own index Lib.objectInit ∈ lw_g) (hinst : Cond.instanceMethod Lib.objectInit ∈ lw_g) (hcode : Cond.code Lib.objectInit ⟨#[0xb1]⟩ 1 none ∈ lw_g) (hR : 1 ≤ rm.frames ∧ (st.map fun v => v.category).sum + 12 ≤ rm.locals) (hd : decode cc pc = .ok (.invokespecial index, 3)) (hp : pc + 3 = pc2) (kk : sx_GA (ct_X Y a c) A nL pc2 lv st P) : sx_GA (ct_X Y a c) A nL pc lv (.ref ad :: st) P := by
  subst hp
  have hrm : sx_rm Y = rm := hC.2.2.2.2.2.2.2.1
  have hts := hC.2.2.2.2.2.1
  intro H locs ls hP hS hl
  refine W.objInit hC.1 hC.2.1 hC.2.2.2.2.1 (hts _ hlink) (hts _ hinst) (hts _ hcode) rfl (hl.1.trans hC.2.2.2.1.symm) rfl hd (by rw [hrm]; exact hR.1) (by rw [hrm]; have := hR.2; show 2 * 0 + _ + 12 ≤ _; omega) ?_
  exact kk H locs ls hP hS hl
end MAKE
