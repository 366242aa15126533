/-- one row of the memory is another one -/
def sx_r (σ : sx_M) (k n p : Nat) (g : Nat → Int32) : sx_M := fun k' n' p' => if k' = k ∧ n' = n ∧ p' = p then g else σ k' n' p'
/-- one place of the memory is another one -/
def sx_u (σ : sx_M) (k n p f : Nat) (v : Int32) : sx_M := sx_r σ k n p (upd (σ k n p) f v)
def sx_rl (τ : sx_L) (k : Nat) (g : Nat → Int64) : sx_L := fun k' => if k' = k then g else τ k'
def sx_ul (τ : sx_L) (k f : Nat) (v : Int64) : sx_L := sx_rl τ k (vp_updL (τ k) f v)
theorem sx_r_row (σ : sx_M) (k n p : Nat) (g : Nat → Int32) : sx_r σ k n p g k n p = g := by simp [sx_r]
theorem sx_r_ne {σ : sx_M} {k n p k' n' p' : Nat} {g : Nat → Int32} (h : ¬ (k' = k ∧ n' = n ∧ p' = p)) : sx_r σ k n p g k' n' p' = σ k' n' p' := if_neg h
theorem sx_rl_row (τ : sx_L) (k : Nat) (g : Nat → Int64) : sx_rl τ k g k = g := by simp [sx_rl]
theorem sx_rl_ne {τ : sx_L} {k k' : Nat} {g : Nat → Int64} (h : ¬ k' = k) : sx_rl τ k g k' = τ k' := if_neg h
/-- the cells of a side -/
def sx_ws (K : sx_K) (σ : sx_M) (τ : sx_L) : va_W := K.2.2.2.map (fun i => (K.2.2.1 i.1 i.2.1 i.2.2, sx_en K i.1 i.2.1 i.2.2 (σ i.1 i.2.1 i.2.2) (τ i.1)))
def sx_H (K : sx_K) (σ : sx_M) (τ : sx_L) (H : Heap) : Prop := va_P K.1 kx_cl (sx_ws K σ τ) H
def sx_A (K : sx_K) : Nat → Prop := fun q => ∃ i ∈ K.2.2.2, q = K.2.2.1 i.1 i.2.1 i.2.2
/-- the ids are apart, and so are their addresses; longs stand in kinds with one id alone -/
def sx_ok (K : sx_K) : Prop := (∀ (a b : Nat) (i : Nat × Nat × Nat), K.2.2.2[a]? = some i → K.2.2.2[b]? = some i → a = b) ∧ (∀ i ∈ K.2.2.2, ∀ j ∈ K.2.2.2, K.2.2.1 i.1 i.2.1 i.2.2 = K.2.2.1 j.1 j.2.1 j.2.2 → i = j)
theorem sx_D {K : sx_K} (h : sx_ok K) (σ : sx_M) (τ : sx_L) : va_D (sx_A K) (sx_ws K σ τ) := by
  have key : ∀ (a : Nat) (q : Nat × va_E), (sx_ws K σ τ)[a]? = some q → ∃ i, K.2.2.2[a]? = some i ∧ q.1 = K.2.2.1 i.1 i.2.1 i.2.2 := by
    intro a q hq
    unfold sx_ws at hq
    rw [List.getElem?_map] at hq
    cases hi : K.2.2.2[a]? with
    | none => rw [hi] at hq; cases hq
    | some i => rw [hi] at hq; cases hq; exact ⟨i, rfl, rfl⟩
  refine ⟨fun a b p q ha hb e => ?_, fun a q ha => ?_⟩
  · obtain ⟨i, hi, ei⟩ := key a p ha
    obtain ⟨j, hj, ej⟩ := key b q hb
    have hij : i = j := h.2 i (List.mem_of_getElem? hi) j (List.mem_of_getElem? hj) (by rw [← ei, ← ej]; exact e)
    subst hij
    exact h.1 a b i hi hj
  · obtain ⟨i, hi, ei⟩ := key a q ha
    exact ⟨i, List.mem_of_getElem? hi, ei⟩
theorem sx_at {K : sx_K} {k n p : Nat} (hm : (k, n, p) ∈ K.2.2.2) (σ : sx_M) (τ : sx_L) : ∃ q0 : Nat, K.2.2.2[q0]? = some (k, n, p) ∧ (sx_ws K σ τ)[q0]? = some (K.2.2.1 k n p, sx_en K k n p (σ k n p) (τ k)) := by
  obtain ⟨q0, hq⟩ := List.getElem?_of_mem hm
  refine ⟨q0, hq, ?_⟩
  unfold sx_ws
  rw [List.getElem?_map, hq]
  rfl
theorem sx_set {K : sx_K} (h : sx_ok K) {k n p q0 : Nat} (hq : K.2.2.2[q0]? = some (k, n, p)) (σ : sx_M) (τ : sx_L) (g : Nat → Int32) : (sx_ws K σ τ).set q0 (K.2.2.1 k n p, sx_en K k n p g (τ k)) = sx_ws K (sx_r σ k n p g) τ := by
  apply List.ext_getElem?
  intro j
  have hl : q0 < (sx_ws K σ τ).length := by
    unfold sx_ws
    rw [List.length_map]
    exact (List.getElem?_eq_some_iff.mp hq).1
  by_cases hj : j = q0
  · subst hj
    rw [List.getElem?_set_self hl]
    unfold sx_ws
    rw [List.getElem?_map, hq]
    show some _ = some (K.2.2.1 k n p, sx_en K k n p (sx_r σ k n p g k n p) (τ k))
    rw [sx_r_row]
  · rw [List.getElem?_set_ne (Ne.symm hj)]
    unfold sx_ws
    rw [List.getElem?_map, List.getElem?_map]
    cases hi : K.2.2.2[j]? with
    | none => rfl
    | some i =>
      dsimp only [Option.map]
      rw [sx_r_ne]
      rintro ⟨e1, e2, e3⟩
      exact hj (h.1 j q0 (k, n, p) (by rw [hi, ← e1, ← e2, ← e3]) hq)
theorem sx_setl {K : sx_K} (h : sx_ok K) {k q0 : Nat} (hone : ∀ n p, (k, n, p) ∈ K.2.2.2 → n = 0 ∧ p = 0) (hq : K.2.2.2[q0]? = some (k, 0, 0)) (σ : sx_M) (τ : sx_L) (g : Nat → Int64) : (sx_ws K σ τ).set q0 (K.2.2.1 k 0 0, sx_en K k 0 0 (σ k 0 0) g) = sx_ws K σ (sx_rl τ k g) := by
  apply List.ext_getElem?
  intro j
  have hl : q0 < (sx_ws K σ τ).length := by
    unfold sx_ws
    rw [List.length_map]
    exact (List.getElem?_eq_some_iff.mp hq).1
  by_cases hj : j = q0
  · subst hj
    rw [List.getElem?_set_self hl]
    unfold sx_ws
    rw [List.getElem?_map, hq]
    show some _ = some (K.2.2.1 k 0 0, sx_en K k 0 0 (σ k 0 0) (sx_rl τ k g k))
    rw [sx_rl_row]
  · rw [List.getElem?_set_ne (Ne.symm hj)]
    unfold sx_ws
    rw [List.getElem?_map, List.getElem?_map]
    cases hi : K.2.2.2[j]? with
    | none => rfl
    | some i =>
      dsimp only [Option.map]
      rw [sx_rl_ne]
      intro e1
      obtain ⟨i1, i2, i3⟩ := i
      dsimp only at e1
      subst e1
      obtain ⟨rfl, rfl⟩ := hone _ _ (List.mem_of_getElem? hi)
      exact hj (h.1 j q0 _ hi hq)
/-- the words that every method has -/
def lw_g : List Cond := lw_tbl.filter goodWord
theorem lw_in {w : Cond} (h : w ∈ lw_tbl) (hg : goodWord w = true) : w ∈ lw_g := List.mem_filter.mpr ⟨h, hg⟩
theorem lw_at {w : Cond} (i : Nat) (h : tables_1[i]? = some w) (hg : goodWord w = true) : w ∈ lw_g := lw_in (List.mem_append_right _ (List.mem_of_getElem? h)) hg
theorem lw_se {q : MethodName × Nat} (i : Nat) (h : lw_privs[i]? = some q) (hg : goodWord (Cond.selects q.1.cls q.1 q.1) = true) : Cond.selects q.1.cls q.1 q.1 ∈ lw_g := lw_in (List.mem_append_left _ (List.mem_map.mpr ⟨q, List.mem_of_getElem? h, rfl⟩)) hg
theorem lw_gg : GoodIn lw_g lw_g := fun w hw => ⟨hw, good_of_word (List.mem_filter.mp hw).2⟩
abbrev sx_wd (y : MethodName) (cc : ByteArray) (n : Nat) (ret : Option FieldType) : List Cond := Cond.code y cc n ret :: lw_g
theorem sx_wg {y : MethodName} {cc : ByteArray} {n : Nat} {ret : Option FieldType} (h : Cond.code y cc n ret ∈ lw_g) : GoodIn lw_g (sx_wd y cc n ret) := fun w hw => (List.mem_cons.mp hw).elim (fun e => by rw [e]; exact lw_gg _ h) (lw_gg w)
