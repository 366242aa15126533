section SXB
variable {X : sx_T} {K : sx_K} {cc : ByteArray} {nL : Nat} {own : String} {ret : Option FieldType} {rm : Room} {l : Launch} {pc pc2 : Nat} {lv : List (Nat × Value)} {st : List Value} {P : Heap → Prop} {σ : sx_M} {τ : sx_L} {k n p : Nat}
theorem sx_ldc (hX : sx_C X K cc nL own ret rm l) {i : Nat} {v : Int32} (hw : Cond.constant own i v ∈ lw_g) (hd : decode cc pc = .ok (.ldc i, 2)) (hp : pc + 2 = pc2) (k : sx_G X K nL pc2 lv (.int v :: st) P) : sx_G X K nL pc lv st P := by
  subst hp
  intro H locs ls hP hS hl
  exact lv_ldc hX.1 hX.2.1 hX.2.2.2.2.1 (hX.2.2.2.2.2.1 _ hw) hd (k H locs ls hP hS hl)
theorem sx_ldcw (hX : sx_C X K cc nL own ret rm l) {i : Nat} {v : Int32} (hw : Cond.constant own i v ∈ lw_g) (hd : decode cc pc = .ok (.ldc_w i, 3)) (hp : pc + 3 = pc2) (k : sx_G X K nL pc2 lv (.int v :: st) P) : sx_G X K nL pc lv st P := by
  subst hp
  intro H locs ls hP hS hl
  exact lv_ldcw hX.1 hX.2.1 hX.2.2.2.2.1 (hX.2.2.2.2.2.1 _ hw) hd (k H locs ls hP hS hl)
theorem sx_ldc2 (hX : sx_C X K cc nL own ret rm l) {i : Nat} {v : Int64} (hw : Cond.constantLong own i v ∈ lw_g) (hd : decode cc pc = .ok (.ldc2_w i, 3)) (hp : pc + 3 = pc2) (k : sx_G X K nL pc2 lv (.long v :: st) P) : sx_G X K nL pc lv st P := by
  subst hp
  intro H locs ls hP hS hl
  exact lv_ldc2 hX.1 hX.2.1 hX.2.2.2.2.1 (hX.2.2.2.2.2.1 _ hw) hd (k H locs ls hP hS hl)
theorem sx_tsw (hX : sx_C X K cc nL own ret rm l) {dflt lo hi : Int} {offs : Array Int} {len : Nat} {x : Int32} (hd : decode cc pc = .ok (.tableswitch dflt lo hi offs, len)) (k : ∀ tgt : Nat, ((x.toInt < lo ∨ hi < x.toInt) → (pc : Int) + dflt = (tgt : Int)) → (¬ x.toInt < lo → ¬ hi < x.toInt → ∃ off, offs[(x.toInt - lo).toNat]? = some off ∧ (pc : Int) + off = (tgt : Int)) → sx_G X K nL tgt lv st P) (tgt : Nat) (h1 : (x.toInt < lo ∨ hi < x.toInt) → (pc : Int) + dflt = (tgt : Int)) (h2 : ¬ x.toInt < lo → ¬ hi < x.toInt → ∃ off, offs[(x.toInt - lo).toNat]? = some off ∧ (pc : Int) + off = (tgt : Int)) : sx_G X K nL pc lv (.int x :: st) P := by
  intro H locs ls hP hS hl
  by_cases h : x.toInt < lo ∨ hi < x.toInt
  · exact lv_tableOut hX.1 hX.2.1 hd h (h1 h) (k tgt h1 h2 H locs ls hP hS hl)
  · obtain ⟨off, ho, ht⟩ := h2 (fun q => h (Or.inl q)) (fun q => h (Or.inr q))
    exact lv_tableIn hX.1 hX.2.1 hd (fun q => h (Or.inl q)) (fun q => h (Or.inr q)) ho ht (k tgt h1 h2 H locs ls hP hS hl)
/-- one case of a switch -/
theorem sx_swi (hX : sx_C X K cc nL own ret rm l) {dflt lo hi : Int} {offs : Array Int} {len : Nat} {x : Int32} {off : Int} {tgt : Nat} (c : Int32) (hc : x = c) (hd : decode cc pc = .ok (.tableswitch dflt lo hi offs, len)) (h1 : ¬ c.toInt < lo) (h2 : ¬ hi < c.toInt) (ho : offs[(c.toInt - lo).toNat]? = some off) (ht : (pc : Int) + off = (tgt : Int)) (k : sx_G X K nL tgt lv st P) : sx_G X K nL pc lv (.int x :: st) P := by
  subst hc
  intro H locs ls hP hS hl
  exact lv_tableIn hX.1 hX.2.1 hd h1 h2 ho ht (k H locs ls hP hS hl)
theorem sx_swo (hX : sx_C X K cc nL own ret rm l) {dflt lo hi : Int} {offs : Array Int} {len : Nat} {x : Int32} {tgt : Nat} (hd : decode cc pc = .ok (.tableswitch dflt lo hi offs, len)) (h : x.toInt < lo ∨ hi < x.toInt) (ht : (pc : Int) + dflt = (tgt : Int)) (k : sx_G X K nL tgt lv st P) : sx_G X K nL pc lv (.int x :: st) P := by
  intro H locs ls hP hS hl
  exact lv_tableOut hX.1 hX.2.1 hd h ht (k H locs ls hP hS hl)
/-- not 0 .. n: outside -/
theorem sx_out (x : Int32) (n : Nat) (h : ∀ j : Nat, j < n + 1 → ¬ x = Int32.ofNat j) (hn : n < 1000) : x.toInt < 0 ∨ (n : Int) < x.toInt := by
  rcases Int.lt_or_le x.toInt 0 with q | q
  · exact Or.inl q
  · refine Or.inr ?_
    rcases Int.lt_or_le (n : Int) x.toInt with z | z
    · exact z
    · exfalso
      refine h x.toInt.toNat (by omega) ?_
      apply Int32.toInt_inj.mp
      rw [Int32.toInt_ofNat_of_lt (by omega)]
      omega
-- arrays
theorem sx_iald (hX : sx_C X K cc nL own ret rm l) (hm : (k, n, p) ∈ K.2.2.2) {len : Nat} (he : sx_en K k n p (σ k n p) (τ k) = .inl (K.2.1 0, len, .inl (σ k n p))) {i : Int32} (hin : vp_in i len) (hd : decode cc pc = .ok (.iaload, 1)) (hp : pc + 1 = pc2) (kk : sx_G X K nL pc2 lv (.int (σ k n p i.toNatClampNeg) :: st) (sx_H K σ τ)) : sx_G X K nL pc lv (.int i :: .ref (K.2.2.1 k n p) :: st) (sx_H K σ τ) := by
  subst hp
  intro H locs ls hP hS hl
  obtain ⟨q0, hq, hq2⟩ := sx_at hm σ τ
  rw [he] at hq2
  exact va_iald hX.1 hX.2.1 hX.2.2.2.2.2.2.2.2.2.2.1 hP q0 0 hq2 rfl hin hd (kk H locs ls hP hS hl)
theorem sx_bald (hX : sx_C X K cc nL own ret rm l) (hm : (k, n, p) ∈ K.2.2.2) {len : Nat} (he : sx_en K k n p (σ k n p) (τ k) = .inl (K.2.1 1, len, .inl (σ k n p))) {i : Int32} (hin : vp_in i len) (hd : decode cc pc = .ok (.baload, 1)) (hp : pc + 1 = pc2) (kk : sx_G X K nL pc2 lv (.int (σ k n p i.toNatClampNeg) :: st) (sx_H K σ τ)) : sx_G X K nL pc lv (.int i :: .ref (K.2.2.1 k n p) :: st) (sx_H K σ τ) := by
  subst hp
  intro H locs ls hP hS hl
  obtain ⟨q0, hq, hq2⟩ := sx_at hm σ τ
  rw [he] at hq2
  exact va_bald hX.1 hX.2.1 hX.2.2.2.2.2.2.2.2.2.2.1 hP q0 1 hq2 rfl hin hd (kk H locs ls hP hS hl)
theorem sx_zald (hX : sx_C X K cc nL own ret rm l) (hm : (k, n, p) ∈ K.2.2.2) {len : Nat} (he : sx_en K k n p (σ k n p) (τ k) = .inl (K.2.1 2, len, .inl (σ k n p))) {i : Int32} (hin : vp_in i len) (hd : decode cc pc = .ok (.baload, 1)) (hp : pc + 1 = pc2) (kk : sx_G X K nL pc2 lv (.int (σ k n p i.toNatClampNeg) :: st) (sx_H K σ τ)) : sx_G X K nL pc lv (.int i :: .ref (K.2.2.1 k n p) :: st) (sx_H K σ τ) := by
  subst hp
  intro H locs ls hP hS hl
  obtain ⟨q0, hq, hq2⟩ := sx_at hm σ τ
  rw [he] at hq2
  exact va_zald hX.1 hX.2.1 hX.2.2.2.2.2.2.2.2.2.2.1 hP q0 2 hq2 rfl hin hd (kk H locs ls hP hS hl)
theorem sx_lald (hX : sx_C X K cc nL own ret rm l) (hm : (k, n, p) ∈ K.2.2.2) {len : Nat} (he : sx_en K k n p (σ k n p) (τ k) = .inl (K.2.1 3, len, .inr (.inl (τ k)))) {i : Int32} (hin : vp_in i len) (hd : decode cc pc = .ok (.laload, 1)) (hp : pc + 1 = pc2) (kk : sx_G X K nL pc2 lv (.long (τ k i.toNatClampNeg) :: st) (sx_H K σ τ)) : sx_G X K nL pc lv (.int i :: .ref (K.2.2.1 k n p) :: st) (sx_H K σ τ) := by
  subst hp
  intro H locs ls hP hS hl
  obtain ⟨q0, hq, hq2⟩ := sx_at hm σ τ
  rw [he] at hq2
  exact va_lald hX.1 hX.2.1 hX.2.2.2.2.2.2.2.2.2.2.1 hP q0 3 hq2 rfl hin hd (kk H locs ls hP hS hl)
theorem sx_iast (hX : sx_C X K cc nL own ret rm l) (hm : (k, n, p) ∈ K.2.2.2) {len : Nat} (he : ∀ r : Nat → Int32, sx_en K k n p r (τ k) = .inl (K.2.1 0, len, .inl r)) {i x : Int32} (hin : vp_in i len) (hd : decode cc pc = .ok (.iastore, 1)) (hp : pc + 1 = pc2) (kk : sx_G X K nL pc2 lv st (sx_H K (sx_u σ k n p i.toNatClampNeg x) τ)) : sx_G X K nL pc lv (.int x :: .int i :: .ref (K.2.2.1 k n p) :: st) (sx_H K σ τ) := by
  subst hp
  intro H locs ls hP hS hl
  obtain ⟨q0, hq, hq2⟩ := sx_at hm σ τ
  rw [he] at hq2
  refine va_iast hX.1 hX.2.1 hX.2.2.2.2.2.2.2.2.2.2.1 hP (sx_D hX.2.2.2.2.2.2.2.2.2.1 σ τ) hS q0 0 hq2 rfl hin hd (fun H1 locs1 h1 _ h3 => kk H1 locs1 ls ?_ h3 hl)
  rw [← he, sx_set hX.2.2.2.2.2.2.2.2.2.1 hq σ τ] at h1
  exact h1
theorem sx_bast (hX : sx_C X K cc nL own ret rm l) (hm : (k, n, p) ∈ K.2.2.2) {len : Nat} (he : ∀ r : Nat → Int32, sx_en K k n p r (τ k) = .inl (K.2.1 1, len, .inl r)) {i x : Int32} (hin : vp_in i len) (hd : decode cc pc = .ok (.bastore, 1)) (hp : pc + 1 = pc2) (kk : sx_G X K nL pc2 lv st (sx_H K (sx_u σ k n p i.toNatClampNeg (vp_nar .byte x)) τ)) : sx_G X K nL pc lv (.int x :: .int i :: .ref (K.2.2.1 k n p) :: st) (sx_H K σ τ) := by
  subst hp
  intro H locs ls hP hS hl
  obtain ⟨q0, hq, hq2⟩ := sx_at hm σ τ
  rw [he] at hq2
  refine va_bast hX.1 hX.2.1 hX.2.2.2.2.2.2.2.2.2.2.1 hP (sx_D hX.2.2.2.2.2.2.2.2.2.1 σ τ) hS q0 1 hq2 rfl hin hd (fun H1 locs1 h1 _ h3 => kk H1 locs1 ls ?_ h3 hl)
  rw [← he, sx_set hX.2.2.2.2.2.2.2.2.2.1 hq σ τ] at h1
  exact h1
theorem sx_zast (hX : sx_C X K cc nL own ret rm l) (hm : (k, n, p) ∈ K.2.2.2) {len : Nat} (he : ∀ r : Nat → Int32, sx_en K k n p r (τ k) = .inl (K.2.1 2, len, .inl r)) {i x : Int32} (hin : vp_in i len) (hd : decode cc pc = .ok (.bastore, 1)) (hp : pc + 1 = pc2) (kk : sx_G X K nL pc2 lv st (sx_H K (sx_u σ k n p i.toNatClampNeg (vp_nar .boolean x)) τ)) : sx_G X K nL pc lv (.int x :: .int i :: .ref (K.2.2.1 k n p) :: st) (sx_H K σ τ) := by
  subst hp
  intro H locs ls hP hS hl
  obtain ⟨q0, hq, hq2⟩ := sx_at hm σ τ
  rw [he] at hq2
  refine va_zast hX.1 hX.2.1 hX.2.2.2.2.2.2.2.2.2.2.1 hP (sx_D hX.2.2.2.2.2.2.2.2.2.1 σ τ) hS q0 2 hq2 rfl hin hd (fun H1 locs1 h1 _ h3 => kk H1 locs1 ls ?_ h3 hl)
  rw [← he, sx_set hX.2.2.2.2.2.2.2.2.2.1 hq σ τ] at h1
  exact h1
theorem sx_last (hX : sx_C X K cc nL own ret rm l) (hm : (k, 0, 0) ∈ K.2.2.2) (hone : ∀ n p, (k, n, p) ∈ K.2.2.2 → n = 0 ∧ p = 0) {len : Nat} (he : ∀ r : Nat → Int64, sx_en K k 0 0 (σ k 0 0) r = .inl (K.2.1 3, len, .inr (.inl r))) {i : Int32} {x : Int64} (hin : vp_in i len) (hd : decode cc pc = .ok (.lastore, 1)) (hp : pc + 1 = pc2) (kk : sx_G X K nL pc2 lv st (sx_H K σ (sx_ul τ k i.toNatClampNeg x))) : sx_G X K nL pc lv (.long x :: .int i :: .ref (K.2.2.1 k 0 0) :: st) (sx_H K σ τ) := by
  subst hp
  intro H locs ls hP hS hl
  obtain ⟨q0, hq, hq2⟩ := sx_at hm σ τ
  rw [he] at hq2
  refine va_last hX.1 hX.2.1 hX.2.2.2.2.2.2.2.2.2.2.1 hP (sx_D hX.2.2.2.2.2.2.2.2.2.1 σ τ) hS q0 3 hq2 rfl hin hd (fun H1 locs1 h1 _ h3 => kk H1 locs1 ls ?_ h3 hl)
  rw [← he, sx_setl hX.2.2.2.2.2.2.2.2.2.1 hone hq σ τ] at h1
  exact h1
theorem sx_alen (hX : sx_C X K cc nL own ret rm l) (hm : (k, n, p) ∈ K.2.2.2) {cA : ClassId} {x : vp_A} {ty : FieldType} (t0 : Nat) (he : sx_en K k n p (σ k n p) (τ k) = .inl (cA, x)) (ht : (sx_ty K)[t0]? = some (cA, ty)) {v : Int32} (hv : Int32.ofNat x.1 = v) (hd : decode cc pc = .ok (.arraylength, 1)) (hp : pc + 1 = pc2) (kk : sx_G X K nL pc2 lv (.int v :: st) (sx_H K σ τ)) : sx_G X K nL pc lv (.ref (K.2.2.1 k n p) :: st) (sx_H K σ τ) := by
  subst hp
  intro H locs ls hP hS hl
  obtain ⟨q0, hq, hq2⟩ := sx_at hm σ τ
  rw [he] at hq2
  exact va_alen hX.1 hX.2.1 hX.2.2.2.2.2.2.2.2.2.2.1 hP q0 t0 hq2 ht hv hd (kk H locs ls hP hS hl)
theorem sx_aald (hX : sx_C X K cc nL own ret rm l) (hm : (k, n, p) ∈ K.2.2.2) {len : Nat} {cA : ClassId} {C : String} {f : Nat → Option Nat} (t0 : Nat) (he : sx_en K k n p (σ k n p) (τ k) = .inl (cA, len, .inr (.inr (.inr (.inr f))))) (ht : (sx_ty K)[t0]? = some (cA, .object C)) {i : Int32} {a : Nat} (ha : f i.toNatClampNeg = some a) (hin : vp_in i len) (hd : decode cc pc = .ok (.aaload, 1)) (hp : pc + 1 = pc2) (kk : sx_G X K nL pc2 lv (.ref a :: st) (sx_H K σ τ)) : sx_G X K nL pc lv (.int i :: .ref (K.2.2.1 k n p) :: st) (sx_H K σ τ) := by
  subst hp
  intro H locs ls hP hS hl
  obtain ⟨q0, hq, hq2⟩ := sx_at hm σ τ
  rw [he] at hq2
  refine va_aldq hX.1 hX.2.1 hX.2.2.2.2.2.2.2.2.2.2.1 hP q0 t0 hq2 ht hin hd ?_
  rw [ha]
  exact kk H locs ls hP hS hl
theorem sx_aalA (hX : sx_C X K cc nL own ret rm l) (hm : (k, n, p) ∈ K.2.2.2) {len : Nat} {f : Nat → Option Nat} (he : sx_en K k n p (σ k n p) (τ k) = .inl (K.2.1 6, len, .inr (.inr (.inr (.inr f))))) {i : Int32} {a : Nat} (ha : f i.toNatClampNeg = some a) (hin : vp_in i len) (hd : decode cc pc = .ok (.aaload, 1)) (hp : pc + 1 = pc2) (kk : sx_G X K nL pc2 lv (.ref a :: st) (sx_H K σ τ)) : sx_G X K nL pc lv (.int i :: .ref (K.2.2.1 k n p) :: st) (sx_H K σ τ) := by
  subst hp
  intro H locs ls hP hS hl
  obtain ⟨q0, hq, hq2⟩ := sx_at hm σ τ
  rw [he] at hq2
  have hlt : i.toNatClampNeg < len := Nat.not_le.mp fun q => hin (Or.inr q)
  refine W.aald (v := va_rf (f i.toNatClampNeg)) (ty := .array .int) hX.1 hX.2.1 (hP q0 _ hq2) ((hX.2.2.2.2.2.2.2.2.2.2.1.2 6 _ rfl).1 len (fun j => va_rf (f j))) rfl (fun q => by cases q) (by show ¬ (i < 0 ∨ (arrV _ _ _).slots.size ≤ _); rw [arrV_size]; exact hin) (by show (arrV _ _ _).slots[_]? = _; rw [arrV_read _ _ hlt]) rfl rfl hd ?_
  rw [ha]
  exact kk H locs ls hP hS hl
-- fields
theorem sx_get (hX : sx_C X K cc nL own ret rm l) (hm : (k, n, p) ∈ K.2.2.2) {ci N index : Nat} {fs : List Value} {C : String} {T : u_T} {v : Value} (he : sx_en K k n p (σ k n p) (τ k) = .inr (ci, fs)) (hc : kx_cl[ci]? = some (C, T, N)) (hin : ∀ w ∈ u_ws C T N, w ∈ lw_g) (f : Nat) (hf : f < N) (hdc : (T f).1 = C) (hlink : Cond.fieldLink own index C (T f).2.1 (T f).2.2.1 ∈ lw_g) (hv : fs[f]? = some v) (hd : decode cc pc = .ok (.getfield index, 3)) (hp : pc + 3 = pc2) (kk : sx_G X K nL pc2 lv (v :: st) (sx_H K σ τ)) : sx_G X K nL pc lv (.ref (K.2.2.1 k n p) :: st) (sx_H K σ τ) := by
  subst hp
  intro H locs ls hP hS hl
  obtain ⟨q0, hq, hq2⟩ := sx_at hm σ τ
  rw [he] at hq2
  exact va_get hX.1 hX.2.1 hX.2.2.2.2.2.1 hin hX.2.2.2.2.1 hX.2.2.2.2.2.2.2.2.2.2.1 hP q0 hq2 hc f hf (hX.2.2.2.2.2.1 _ hlink) (fun x h => by rw [hdc] at h; exact h) hv hd (kk H locs ls hP hS hl)
theorem sx_put (hX : sx_C X K cc nL own ret rm l) (hm : (k, n, p) ∈ K.2.2.2) {ci N index : Nat} {fs : List Value} {C : String} {T : u_T} {x : Int32} (he : sx_en K k n p (σ k n p) (τ k) = .inr (ci, fs)) (hc : kx_cl[ci]? = some (C, T, N)) (hin : ∀ w ∈ u_ws C T N, w ∈ lw_g) {ty0 : Nat → FieldType} (hty : ∀ k, k < N → parseFieldDescriptor (T k).2.2.1 = some (ty0 k)) (hnm : ∀ a, a < N → ∀ b, b < N → a ≠ b → (T a).2.1 ≠ (T b).2.1) (f : Nat) (hf : f < N) (hdc : (T f).1 = C) (hlink : Cond.fieldLink own index C (T f).2.1 (T f).2.2.1 ∈ lw_g) (hfin : (T f).2.2.2 = false) (hn : narrow (ty0 f) (.int x) = .int x) (hfit : fits (ty0 f) (.int x) = true) (hl2 : f < fs.length) (he2 : sx_en K k n p (upd (σ k n p) f x) (τ k) = .inr (ci, fs.set f (.int x))) (hd : decode cc pc = .ok (.putfield index, 3)) (hp : pc + 3 = pc2) (kk : sx_G X K nL pc2 lv st (sx_H K (sx_u σ k n p f x) τ)) : sx_G X K nL pc lv (.int x :: .ref (K.2.2.1 k n p) :: st) (sx_H K σ τ) := by
  subst hp
  intro H locs ls hP hS hl
  obtain ⟨q0, hq, hq2⟩ := sx_at hm σ τ
  rw [he] at hq2
  refine va_put hX.1 hX.2.1 hX.2.2.2.2.2.1 hin ty0 hty hnm hX.2.2.2.2.1 hX.2.2.2.2.2.2.2.2.2.2.1 hP (sx_D hX.2.2.2.2.2.2.2.2.2.1 σ τ) hS q0 hq2 hc f hf (hX.2.2.2.2.2.1 _ hlink) (fun x h => by rw [hdc] at h; exact h) hfin (hty f hf) hn hfit hl2 hd (fun H1 locs1 h1 _ h3 => kk H1 locs1 ls ?_ h3 hl)
  rw [← he2, sx_set hX.2.2.2.2.2.2.2.2.2.1 hq σ τ] at h1
  exact h1
-- a reference that a field of text type holds: the number of a text
theorem sx_putS (hX : sx_C X K cc nL own ret rm l) (hm : (k, n, p) ∈ K.2.2.2) {ci N index : Nat} {fs : List Value} {C : String} {T : u_T} (x : Int32) {a : Nat} (ha : K.2.2.1 40 x.toNatClampNeg 0 = a) (he : sx_en K k n p (σ k n p) (τ k) = .inr (ci, fs)) (hc : kx_cl[ci]? = some (C, T, N)) (hin : ∀ w ∈ u_ws C T N, w ∈ lw_g) {ty0 : Nat → FieldType} (hty : ∀ k, k < N → parseFieldDescriptor (T k).2.2.1 = some (ty0 k)) (hnm : ∀ a, a < N → ∀ b, b < N → a ≠ b → (T a).2.1 ≠ (T b).2.1) (f : Nat) (hf : f < N) (hdc : (T f).1 = C) (hlink : Cond.fieldLink own index C (T f).2.1 (T f).2.2.1 ∈ lw_g) (hfin : (T f).2.2.2 = false) (hn : narrow (ty0 f) (.ref a) = .ref a) (hfit : fits (ty0 f) (.ref a) = true) (hl2 : f < fs.length) (he2 : sx_en K k n p (upd (σ k n p) f x) (τ k) = .inr (ci, fs.set f (.ref a))) (hd : decode cc pc = .ok (.putfield index, 3)) (hp : pc + 3 = pc2) (kk : sx_G X K nL pc2 lv st (sx_H K (sx_u σ k n p f x) τ)) : sx_G X K nL pc lv (.ref a :: .ref (K.2.2.1 k n p) :: st) (sx_H K σ τ) := by
  subst hp
  intro H locs ls hP hS hl
  obtain ⟨q0, hq, hq2⟩ := sx_at hm σ τ
  rw [he] at hq2
  refine va_put hX.1 hX.2.1 hX.2.2.2.2.2.1 hin ty0 hty hnm hX.2.2.2.2.1 hX.2.2.2.2.2.2.2.2.2.2.1 hP (sx_D hX.2.2.2.2.2.2.2.2.2.1 σ τ) hS q0 hq2 hc f hf (hX.2.2.2.2.2.1 _ hlink) (fun x h => by rw [hdc] at h; exact h) hfin (hty f hf) hn hfit hl2 hd (fun H1 locs1 h1 _ h3 => kk H1 locs1 ls ?_ h3 hl)
  rw [← he2, sx_set hX.2.2.2.2.2.2.2.2.2.1 hq σ τ] at h1
  exact h1
end SXB
