/-- where the component's cells lie, counted from the tree's first -/
def kc_b (n : Nat) : Nat := if n = 0 then 34 else if n = 1 then 73 else 136 + 39 * (n - 2)
def kc_m (n : Nat) : Nat := if n < 25 then kc_b n + 4 else if n = 25 then 113 else 121
def kc_ad (K : sx_K) (h0 s0 : Nat) : Nat → Nat → Nat → Nat := fun k n p => match k with
  | 0 => h0
  | 1 => s0 + 0
  | 2 => s0 + 1
  | 3 => s0 + 2
  | 4 => s0 + 3
  | 5 => s0 + 4
  | 6 => s0 + 5
  | 7 => s0 + 6
  | 8 => s0 + (if n = 0 then 21 else 7)
  | 9 => s0 + (if n = 0 then 22 else 8)
  | 10 => s0 + (if n = 0 then 23 else 9)
  | 11 => s0 + (if n = 0 then 24 else 10)
  | 12 => s0 + (if n = 0 then 25 else 11)
  | 13 => s0 + ((if n = 0 then 26 else 12) + p)
  | 14 => s0 + (if n = 0 then 33 else 19)
  | 15 => s0 + 20
  | 16 => s0 + kc_b n
  | 17 => s0 + (kc_b n + 1)
  | 18 => s0 + (kc_b n + 2)
  | 19 => s0 + (kc_b n + 3)
  | 20 => s0 + kc_m n
  | 21 => s0 + (kc_m n + 1)
  | 22 => s0 + (kc_m n + 2)
  | 23 => s0 + (kc_m n + 3)
  | 24 => s0 + (kc_m n + 4)
  | 25 => s0 + (kc_m n + 5)
  | 26 => s0 + (kc_m n + 6)
  | 27 => s0 + (kc_b n + (11 + 4 * p))
  | 28 => s0 + (kc_b n + (12 + 4 * p))
  | 29 => s0 + (kc_b n + (13 + 4 * p))
  | 30 => s0 + (kc_b n + (14 + 4 * p))
  | 31 => s0 + (if n = 0 then 112 else 120)
  | 32 => s0 + 128
  | 33 => s0 + 129
  | 34 => s0 + 130
  | 35 => s0 + 131
  | 36 => s0 + 132
  | 37 => s0 + 133
  | 38 => s0 + 134
  | 39 => s0 + 135
  | _ => K.2.2.1 k n p
def kc_net (n : Nat) : List (Nat × Nat × Nat) := [(16, n, 0), (17, n, 0), (18, n, 0), (19, n, 0), (20, n, 0), (21, n, 0), (22, n, 0), (23, n, 0), (24, n, 0), (25, n, 0), (26, n, 0), (27, n, 0), (28, n, 0), (29, n, 0), (30, n, 0), (27, n, 1), (28, n, 1), (29, n, 1), (30, n, 1), (27, n, 2), (28, n, 2), (29, n, 2), (30, n, 2), (27, n, 3), (28, n, 3), (29, n, 3), (30, n, 3), (27, n, 4), (28, n, 4), (29, n, 4), (30, n, 4), (27, n, 5), (28, n, 5), (29, n, 5), (30, n, 5), (27, n, 6), (28, n, 6), (29, n, 6), (30, n, 6)]
def kc_1 : List (Nat × Nat × Nat) := [(1, 0, 0), (2, 0, 0), (3, 0, 0), (4, 0, 0), (5, 0, 0), (6, 0, 0), (7, 0, 0), (8, 1, 0), (9, 1, 0), (10, 1, 0), (11, 1, 0), (12, 1, 0), (13, 1, 0), (13, 1, 1), (13, 1, 2), (13, 1, 3), (13, 1, 4), (13, 1, 5), (13, 1, 6), (14, 1, 0), (15, 0, 0), (8, 0, 0), (9, 0, 0), (10, 0, 0), (11, 0, 0), (12, 0, 0), (13, 0, 0), (13, 0, 1), (13, 0, 2), (13, 0, 3), (13, 0, 4), (13, 0, 5), (13, 0, 6), (14, 0, 0)]
def kc_2 : List (Nat × Nat × Nat) := [(31, 0, 0), (20, 25, 0), (21, 25, 0), (22, 25, 0), (23, 25, 0), (24, 25, 0), (25, 25, 0), (26, 25, 0), (31, 1, 0), (20, 26, 0), (21, 26, 0), (22, 26, 0), (23, 26, 0), (24, 26, 0), (25, 26, 0), (26, 26, 0), (32, 0, 0), (33, 0, 0), (34, 0, 0), (35, 0, 0), (36, 0, 0), (37, 0, 0), (38, 0, 0), (39, 0, 0)]
def kc_I : List (Nat × Nat × Nat) := (0, 0, 0) :: (kc_1 ++ (kc_net 0 ++ (kc_net 1 ++ (kc_2 ++ (List.range 23).flatMap (fun i => kc_net (2 + i))))))
def kc_K (K : sx_K) (h0 s0 : Nat) : sx_K := (K.1, K.2.1, kc_ad K h0 s0, kc_I)
/-- the place of an id -/
def kc_o (i : Nat × Nat × Nat) : Nat := if i.1 = 0 then 0 else kc_ad ((fun _ => 0, fun _ _ => 0), fun _ => 0, fun _ _ _ => 0, []) 0 1 i.1 i.2.1 i.2.2
set_option maxRecDepth 100000 in
theorem kc_line : kc_I.map kc_o = List.range 1034 := by decide +kernel
set_option maxRecDepth 100000 in
theorem kc_small : ∀ i ∈ kc_I, i.1 < 40 ∧ (i.1 = 0 → i = (0, 0, 0)) := by decide +kernel
theorem kc_at {a : Nat} {i : Nat × Nat × Nat} (h : kc_I[a]? = some i) : kc_o i = a ∧ a < 1034 := by
  have h1 : (kc_I.map kc_o)[a]? = some (kc_o i) := by rw [List.getElem?_map, h]; rfl
  rw [kc_line] at h1
  have hlt : a < 1034 := by
    by_cases q : a < 1034
    · exact q
    · rw [List.getElem?_eq_none (by rw [List.length_range]; omega)] at h1; cases h1
  rw [List.getElem?_range hlt] at h1
  exact ⟨(Option.some.inj h1).symm, hlt⟩
theorem kc_eq (K : sx_K) (h0 s0 : Nat) {i : Nat × Nat × Nat} (h : i ∈ kc_I) : kc_ad K h0 s0 i.1 i.2.1 i.2.2 = if kc_o i = 0 then h0 else s0 + (kc_o i - 1) := by
  obtain ⟨k, n, p⟩ := i
  have hk : k < 40 := (kc_small _ h).1
  have h0' : k = 0 → ((k, n, p) : Nat × Nat × Nat) = (0, 0, 0) := (kc_small _ h).2
  by_cases hz : k = 0
  · cases h0' hz; rfl
  · have hk2 : k = 1 ∨ k = 2 ∨ k = 3 ∨ k = 4 ∨ k = 5 ∨ k = 6 ∨ k = 7 ∨ k = 8 ∨ k = 9 ∨ k = 10 ∨ k = 11 ∨ k = 12 ∨ k = 13 ∨ k = 14 ∨ k = 15 ∨ k = 16 ∨ k = 17 ∨ k = 18 ∨ k = 19 ∨ k = 20 ∨ k = 21 ∨ k = 22 ∨ k = 23 ∨ k = 24 ∨ k = 25 ∨ k = 26 ∨ k = 27 ∨ k = 28 ∨ k = 29 ∨ k = 30 ∨ k = 31 ∨ k = 32 ∨ k = 33 ∨ k = 34 ∨ k = 35 ∨ k = 36 ∨ k = 37 ∨ k = 38 ∨ k = 39 := by omega
    have ex : ∃ x, kc_o (k, n, p) = 1 + x ∧ kc_ad K h0 s0 k n p = s0 + x := by
      rcases hk2 with rfl | rfl | rfl | rfl | rfl | rfl | rfl | rfl | rfl | rfl | rfl | rfl | rfl | rfl | rfl | rfl | rfl | rfl | rfl | rfl | rfl | rfl | rfl | rfl | rfl | rfl | rfl | rfl | rfl | rfl | rfl | rfl | rfl | rfl | rfl | rfl | rfl | rfl | rfl <;> exact ⟨_, rfl, rfl⟩
    obtain ⟨x, e1, e2⟩ := ex
    rw [e1, if_neg (by omega)]
    show kc_ad K h0 s0 k n p = _
    rw [e2]
    congr 1
    omega
theorem kc_ok {K : sx_K} {h0 s0 : Nat} (hlt : h0 < s0) : sx_ok (kc_K K h0 s0) := by
  refine ⟨fun a b i ha hb => (kc_at ha).1.symm.trans (kc_at hb).1, fun i hi j hj e => ?_⟩
  have e2 : kc_ad K h0 s0 i.1 i.2.1 i.2.2 = kc_ad K h0 s0 j.1 j.2.1 j.2.2 := e
  rw [kc_eq K h0 s0 hi, kc_eq K h0 s0 hj] at e2
  have hij : kc_o i = kc_o j := by
    by_cases h1 : kc_o i = 0 <;> by_cases h2 : kc_o j = 0
    · omega
    · rw [if_pos h1, if_neg h2] at e2; omega
    · rw [if_neg h1, if_pos h2] at e2; omega
    · rw [if_neg h1, if_neg h2] at e2; omega
  obtain ⟨a, ha⟩ := List.getElem?_of_mem hi
  obtain ⟨b, hb⟩ := List.getElem?_of_mem hj
  have hab : a = b := by rw [← (kc_at ha).1, ← (kc_at hb).1, hij]
  subst hab
  exact Option.some.inj (ha.symm.trans hb)
theorem kc_A {K : sx_K} {h0 s0 : Nat} {q : Nat} (h : sx_A (kc_K K h0 s0) q) : q = h0 ∨ (s0 ≤ q ∧ q < s0 + 1033) := by
  obtain ⟨i, hi, rfl⟩ := h
  have e := kc_eq K h0 s0 hi
  obtain ⟨a, ha⟩ := List.getElem?_of_mem hi
  have h2 := kc_at ha
  rw [show (kc_K K h0 s0).2.2.1 i.1 i.2.1 i.2.2 = kc_ad K h0 s0 i.1 i.2.1 i.2.2 from rfl, e]
  by_cases h1 : kc_o i = 0
  · rw [if_pos h1]; exact Or.inl rfl
  · rw [if_neg h1]; right; omega
def kc_chk : Bool := (List.range 40).all fun k => (List.range (kx_nb k)).all fun n => (List.range (kx_pb k)).all fun p => decide (kc_I[kc_o (k, n, p)]? = some (k, n, p))
set_option maxRecDepth 100000 in
theorem kc_chk_ok : kc_chk = true := by decide +kernel
theorem kc_mem (k : Nat) (hk : k < 40) (n : Nat) (hn : n < kx_nb k) (p : Nat) (hp : p < kx_pb k) : kc_I[kc_o (k, n, p)]? = some (k, n, p) := by
  have h1 := List.all_eq_true.mp kc_chk_ok k (List.mem_range.mpr hk)
  have h2 := List.all_eq_true.mp h1 n (List.mem_range.mpr hn)
  have h3 := List.all_eq_true.mp h2 p (List.mem_range.mpr hp)
  exact of_decide_eq_true h3
theorem kc_C (K : sx_K) (h0 s0 : Nat) : kx_C (kc_K K h0 s0) := by
  intro k n p hn hp
  by_cases hk : k < 40
  · exact List.mem_of_getElem? (kc_mem k hk n hn p hp)
  · exfalso
    have hz : kx_nb k = 0 := by
      unfold kx_nb
      split <;> first | rfl | omega
    omega
/-- what the tree's constructor leaves -/
def st_σ : sx_M := fun k _ _ j => match k with
  | 3 => if j = 4 then -1 else 0
  | 4 => if j = 5 then -1 else 0
  | 13 => -1
  | 14 => kx_sta 0 j
  | _ => 0
section KC
variable {K : sx_K} {h0 s0 : Nat} {H : Heap}
set_option maxRecDepth 100000 in
set_option maxHeartbeats 4000000 in
theorem kc_nt {n : Nat} (hn : n < 25) (h : ∀ (r : Nat) (x : va_E), (nt_al K (s0 + kc_b n + 1) (s0 + 21))[r]? = some x → va_at K.1 kx_cl (s0 + kc_b n + r, x) H) : ∀ i ∈ kc_net n, va_at K.1 kx_cl (kc_ad K h0 s0 i.1 i.2.1 i.2.2, sx_en (kc_K K h0 s0) i.1 i.2.1 i.2.2 (st_σ i.1 i.2.1 i.2.2) (fun _ => 0)) H := by
  have hm : kc_m n = kc_b n + 4 := if_pos hn
  intro i hi
  unfold kc_net at hi
  simp only [List.mem_cons, List.mem_nil_iff, or_false] at hi
  rcases hi with rfl | rfl | rfl | rfl | rfl | rfl | rfl | rfl | rfl | rfl | rfl | rfl | rfl | rfl | rfl | rfl | rfl | rfl | rfl | rfl | rfl | rfl | rfl | rfl | rfl | rfl | rfl | rfl | rfl | rfl | rfl | rfl | rfl | rfl | rfl | rfl | rfl | rfl | rfl
  · show va_at K.1 kx_cl (s0 + kc_b n, .inr (3, [.ref (s0 + 21), .int 0, .int 0, .int 0, .int 0, .int 0, .int 0, .int 0, .ref (s0 + (kc_b n + 1)), .ref (s0 + (kc_b n + 2)), .ref (s0 + (kc_b n + 3)), .ref (s0 + kc_m n)])) H
    rw [hm]
    exact h 0 _ rfl
  · have h1 : H[s0 + kc_b n + 1]? = some (vp_cell (K.2.1 4) (7, .inr (.inr (.inr (.inr _))))) := h 1 _ rfl
    show H[s0 + kc_b n + 1]? = some (vp_cell (K.2.1 4) (7, .inr (.inr (.inr (.inr (fun j => some (s0 + (kc_b n + (11 + 4 * j)))))))))
    rw [h1]
    exact congrArg some (gx_extq (fun j hj => match j, hj with | 0, _ => rfl | 1, _ => rfl | 2, _ => rfl | 3, _ => rfl | 4, _ => rfl | 5, _ => rfl | 6, _ => rfl | j + 7, hj => absurd hj (by omega)))
  · exact h 2 _ rfl
  · exact h 3 _ rfl
  · show va_at K.1 kx_cl (s0 + kc_m n, .inr (2, [.int 0, .ref (s0 + (kc_m n + 1)), .ref (s0 + (kc_m n + 2)), .ref (s0 + (kc_m n + 3)), .ref (s0 + (kc_m n + 4)), .ref (s0 + (kc_m n + 5)), .ref (s0 + (kc_m n + 6))])) H
    rw [hm]
    exact h 4 _ rfl
  · show va_at K.1 kx_cl (s0 + (kc_m n + 1), .inl (K.2.1 0, 200, .inl (fun _ => 0))) H
    rw [hm]
    exact h 5 _ rfl
  · show va_at K.1 kx_cl (s0 + (kc_m n + 2), .inl (K.2.1 0, 200, .inl (fun _ => 0))) H
    rw [hm]
    exact h 6 _ rfl
  · show va_at K.1 kx_cl (s0 + (kc_m n + 3), .inl (K.2.1 0, 200, .inl (fun _ => 0))) H
    rw [hm]
    exact h 7 _ rfl
  · show va_at K.1 kx_cl (s0 + (kc_m n + 4), .inl (K.2.1 0, 200, .inl (fun _ => 0))) H
    rw [hm]
    exact h 8 _ rfl
  · show va_at K.1 kx_cl (s0 + (kc_m n + 5), .inl (K.2.1 0, 200, .inl (fun _ => 0))) H
    rw [hm]
    exact h 9 _ rfl
  · show va_at K.1 kx_cl (s0 + (kc_m n + 6), .inl (K.2.1 0, 200, .inl (fun _ => 0))) H
    rw [hm]
    exact h 10 _ rfl
  · exact h 11 _ rfl
  · exact h 12 _ rfl
  · exact h 13 _ rfl
  · exact h 14 _ rfl
  · exact h 15 _ rfl
  · exact h 16 _ rfl
  · exact h 17 _ rfl
  · exact h 18 _ rfl
  · exact h 19 _ rfl
  · exact h 20 _ rfl
  · exact h 21 _ rfl
  · exact h 22 _ rfl
  · exact h 23 _ rfl
  · exact h 24 _ rfl
  · exact h 25 _ rfl
  · exact h 26 _ rfl
  · exact h 27 _ rfl
  · exact h 28 _ rfl
  · exact h 29 _ rfl
  · exact h 30 _ rfl
  · exact h 31 _ rfl
  · exact h 32 _ rfl
  · exact h 33 _ rfl
  · exact h 34 _ rfl
  · exact h 35 _ rfl
  · exact h 36 _ rfl
  · exact h 37 _ rfl
  · exact h 38 _ rfl
end KC
