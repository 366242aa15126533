theorem ix_2 (c d p v : Nat) : (nI c + nI d * nI p) + nI v = nI (c + d * p + v) := by rw [pk_mul, nI_add, nI_add]
theorem ix_3 (c v d p q : Nat) : (nI c * nI v + nI d * nI p) + nI q = nI (c * v + d * p + q) := by rw [pk_mul, pk_mul, nI_add, nI_add]
theorem cl_I {n : Nat} {x : Int32} (hx : x = nI n) (h : n < 2 ^ 31) : x.toNatClampNeg = n := by rw [hx]; exact nI_clamp h
theorem in_I {n N : Nat} {x : Int32} (hx : x = nI n) (h : n < N) (hN : N < 2 ^ 31) : vp_in x N := by rw [hx]; exact vp_in_nI h hN
/-- shifts and bits of small numbers -/
theorem sh_I {a : Nat} (ha : a < 2 ^ 31) {i : Nat} (hi : i < 31) : nI a >>> (nI i &&& 31) = nI (a / 2 ^ i) := by
  refine pk_shrN ha _ i ?_
  have : ∀ j, j < 32 → ((nI j &&& 31).toBitVec.smod 32).toNat = j := by decide +kernel
  exact this i (by omega)
theorem and1_I {a : Nat} (ha : a < 2 ^ 31) : nI a &&& 1 = nI (a % 2) := by
  have := pk_andN (n := a) (by omega) (m := 1) 1 (by decide)
  simpa using this
theorem bit_I {a : Nat} (ha : a < 2 ^ 31) {i : Nat} (hi : i < 31) : (nI a >>> (nI i &&& 31)) &&& 1 = nI (a / 2 ^ i % 2) := by
  rw [sh_I ha hi, and1_I (Nat.lt_of_le_of_lt (Nat.div_le_self _ _) ha)]
theorem b_I (f : Nat → Int32) {n i : Nat} (hi : i < n) (hn : n ≤ 16) : (nI (pn_b f n) >>> (nI i &&& 31)) &&& 1 = if f i = 1 then 1 else 0 := by
  have h1 := pn_b_lt f n
  have h2 : 2 ^ n ≤ 2 ^ 16 := Nat.pow_le_pow_right (by decide) hn
  rw [bit_I (by omega) (by omega), pn_b_bit f n i hi]
  split <;> rfl
section LEAF
variable {P L v m e : Nat} {σ ρ : sx_M} {θ : sx_L}
theorem R_of {x w : Int32} {Q : Int32 → sx_M → sx_L → Prop} {p i : Nat} (hx : x = nI p) (hw : w = nI i) (hp : p < 7) (hi : i < 10) (h : Q (ρ 68 0 0 (26 + 10 * p + i)) ρ θ) : wp_Mo_of x w ρ θ Q := by
  subst hx hw
  have e : ((26 : Int32) + (10 * nI p)) + nI i = nI (26 + 10 * p + i) := ix_2 26 10 p i
  unfold wp_Mo_of
  rw [e, nI_clamp (by omega)]
  exact ⟨vp_in_nI (by omega) (by decide), h⟩
theorem R_keeps {x w y : Int32} {Q : sx_M → sx_L → Prop} {p i : Nat} (hx : x = nI p) (hw : w = nI i) (hp : p < 7) (hi : i < 10) (h : Q (sx_u ρ 68 0 0 (26 + 10 * p + i) y) θ) : wp_Mo_keeps x w y ρ θ Q := by
  subst hx hw
  have e : ((26 : Int32) + (10 * nI p)) + nI i = nI (26 + 10 * p + i) := ix_2 26 10 p i
  unfold wp_Mo_keeps
  rw [e, nI_clamp (by omega)]
  exact ⟨vp_in_nI (by omega) (by decide), fun _ q => by subst q; exact h⟩
theorem R_setting (hP : pn_P P L v σ ρ) {x : Int32} {Q : Int32 → sx_M → sx_L → Prop} {i : Nat} (hx : x = nI i) (hi : i < 9) (h : Q (σ 14 0 0 i) ρ θ) : wp_Mo_setting x ρ θ Q := by
  subst hx
  have e : (9 * (ρ 50 0 0 17)) + nI i = nI (9 * v + i) := by rw [hP.2.1.2.2.1]; show nI 9 * nI v + nI i = _; rw [pk_mul, nI_add]
  have hv := hP.1.2.2
  unfold wp_Mo_setting
  rw [e, nI_clamp (by omega), (hP.2.2.2.1 i hi).1]
  exact ⟨vp_in_nI (by omega) (by decide), h⟩
/-- the lot, of a seed, a which and a bound -/
def pn_x (h w : Int32) : Int32 := ((((h ^^^ w) * 1103515245) + 12345) ^^^ (((((h ^^^ w) * 1103515245) + 12345).toUInt32 >>> ((15 : Int32).toUInt32 &&& Int32.toUInt32 31)).toInt32))
def pn_lot (s w n : Int32) : Int32 := (((pn_x (pn_x s 229) w).toUInt32 >>> ((1 : Int32).toUInt32 &&& Int32.toUInt32 31)).toInt32) - (((pn_x (pn_x s 229) w).toUInt32 >>> ((1 : Int32).toUInt32 &&& Int32.toUInt32 31)).toInt32) / n * n
theorem R_lotOf (hP : pn_P P L v σ ρ) {w n : Int32} {Q : Int32 → sx_M → sx_L → Prop} (hn : ¬ n = 0) (h : Q (pn_lot ((σ 14 0 0 8) + (ρ 50 0 0 31)) w n) ρ θ) : wp_Mo_lotOf w n ρ θ Q := by
  unfold wp_Mo_lotOf
  refine R_setting hP (i := 8) rfl (by decide) ?_
  unfold wp_Mo_mixed
  exact ⟨hn, h⟩
theorem C_lot {e : Nat} {n w : Int32} {Q : Int32 → sx_M → Prop} (hn : 0 < n) (h : Q (pn_lot ((σ 14 0 0 8) + (σ 31 e 0 3)) w n) σ) : wp_En_lot e n w σ Q := by
  unfold wp_En_lot
  refine ⟨in_I (n := 8) rfl (by decide) (by decide), 3, ?_⟩
  have h1 : ¬ (2 : Int32) ≤ 0 := by decide
  have h2 : ¬ (2 : Int32) ≤ 0 + 1 := by decide
  have h3 : (2 : Int32) ≤ 0 + 1 + 1 := by decide
  have h4 : ¬ (0 + 1 : Int32) = 0 := by decide
  have h5 : ¬ n ≤ 0 := fun q => by
    have a := Int32.lt_iff_toInt_lt.mp hn
    have b := Int32.le_iff_toInt_le.mp q
    omega
  have h6 : ¬ n = 0 := fun q => h5 (by rw [q]; decide)
  simp only [wp_En_lot_b19, wp_En_lot_b38, wp_En_lot_b73, if_neg h1, if_neg h2, if_pos h3, if_pos, if_neg h4, if_neg h5]
  exact ⟨h6, h⟩
/-- whether a post is on, a link up: bits of the row -/
theorem R_isOn (hN : pn_N P L m σ e ρ 68 0) {x : Int32} {Q : Int32 → sx_M → sx_L → Prop} {p : Nat} (hx : x = nI p) (hp : p < P) (h : Q (σ 27 e p 0) ρ θ) : wp_Mo_isOn x ρ θ Q := by
  subst hx
  obtain ⟨⟨hP, hL⟩, -, -, -, a4, -⟩ := hN
  unfold wp_Mo_isOn wp_Mo_isOn_b20
  have e9 : ρ 68 0 0 (9 : Int32).toNatClampNeg = nI (pn_b (fun p => σ 27 e p 0) P) := by
    have := a4.2
    rwa [Nat.zero_add] at this
  refine ⟨in_I (n := 9) rfl (by decide) (by decide), ?_⟩
  rw [e9, b_I _ hp (by omega)]
  rcases a4.1 p hp with q | q
  · rw [q] at h ⊢
    simpa using h
  · rw [q] at h ⊢
    simpa using h
theorem R_isUp (hN : pn_N P L m σ e ρ 68 0) {x : Int32} {Q : Int32 → sx_M → sx_L → Prop} {i : Nat} (hx : x = nI i) (hi : i < L) (h : Q (σ 18 e 0 i) ρ θ) : wp_Mo_isUp x ρ θ Q := by
  subst hx
  obtain ⟨⟨hP, hL⟩, -, -, a3, -⟩ := hN
  unfold wp_Mo_isUp wp_Mo_isUp_b20
  have e8 : ρ 68 0 0 (8 : Int32).toNatClampNeg = nI (pn_b (σ 18 e 0) L) := by
    have := a3.2
    rwa [Nat.zero_add] at this
  refine ⟨in_I (n := 8) rfl (by decide) (by decide), ?_⟩
  rw [e8, b_I _ hi hL]
  rcases a3.1 i hi with q | q
  · rw [q] at h ⊢
    simpa using h
  · rw [q] at h ⊢
    simpa using h
/-- neighbours: 1 or 0 -/
def pn_nb (σ : sx_M) (e a b : Nat) : Int32 := if σ 13 0 a b = -1 then 0 else if σ 18 e 0 (σ 13 0 a b).toNatClampNeg = 1 ∧ ¬ σ 27 e a 0 = 0 ∧ ¬ σ 27 e b 0 = 0 then 1 else 0
theorem C_near (hP : pn_P P L v σ ρ) {e : Nat} {x y : Int32} {Q : Int32 → sx_M → Prop} {a b : Nat} (hx : x = nI a) (hy : y = nI b) (ha : a < P) (hb : b < P) (h : Q (pn_nb σ e a b) σ) : wp_Ne_areNeighbours e x y σ Q := by
  subst hx hy
  have h7 := hP.1.1
  have ia : vp_in (nI a) 7 := vp_in_nI (by omega) (by decide)
  have ib : vp_in (nI b) 7 := vp_in_nI (by omega) (by decide)
  have na : ¬ 7 ≤ nI a := nI_ge (b := 7) (by omega) (by decide)
  have nb : nI b < 7 := nI_lt (b := 7) (by omega) (by decide)
  unfold wp_Ne_areNeighbours
  rw [if_neg (nI_pos (n := a) (by omega)), if_neg na, if_neg (nI_pos (n := b) (by omega)), if_pos nb]
  rw [nI_clamp (n := a) (by omega), nI_clamp (n := b) (by omega)]
  refine ⟨ia, ib, ?_⟩
  unfold wp_Ne_areNeighbours_b77 wp_Ne_areNeighbours_b78
  unfold pn_nb at h
  by_cases c : σ 13 0 a b = -1
  · rw [if_pos c] at h ⊢
    exact ⟨Or.inl rfl, h⟩
  · rw [if_neg c] at h ⊢
    obtain ⟨l, hl, el, -⟩ := ((hP.2.2.2.2.2.1 a b ha hb).2).resolve_left c
    have h16 := hP.1.2.1
    refine ⟨in_I el (by omega) (by decide), ?_⟩
    by_cases c1 : σ 18 e 0 (σ 13 0 a b).toNatClampNeg = 1
    · rw [if_pos c1]
      refine ⟨ia, ?_⟩
      by_cases c2 : σ 27 e a 0 = 0
      · rw [if_pos c2]
        rw [if_neg (fun z => z.2.1 c2)] at h
        exact ⟨Or.inl rfl, h⟩
      · rw [if_neg c2]
        refine ⟨ib, ?_⟩
        by_cases c3 : σ 27 e b 0 = 0
        · rw [if_pos c3]
          rw [if_neg (fun z => z.2.2 c3)] at h
          exact ⟨Or.inl rfl, h⟩
        · rw [if_neg c3]
          rw [if_pos ⟨c1, c2, c3⟩] at h
          exact ⟨Or.inr rfl, h⟩
    · rw [if_neg c1]
      rw [if_neg (fun z => c1 z.1)] at h
      exact ⟨Or.inl rfl, h⟩
/-- nobody is no neighbour -/
theorem C_near0 {e : Nat} {x y : Int32} {Q : Int32 → sx_M → Prop} (hy : y < 0) (h : Q 0 σ) : wp_Ne_areNeighbours e x y σ Q := by
  unfold wp_Ne_areNeighbours wp_Ne_areNeighbours_b20
  by_cases c1 : x < 0
  · rw [if_pos c1]; exact h
  · rw [if_neg c1]
    by_cases c2 : 7 ≤ x
    · rw [if_pos c2]; exact h
    · rw [if_neg c2, if_pos hy]; exact h
theorem R_near (hP : pn_P P L v σ ρ) (hN : pn_N P L m σ e ρ 68 0) {x y : Int32} {Q : Int32 → sx_M → sx_L → Prop} {a b : Nat} (hx : x = nI a) (hy : y = nI b) (ha : a < P) (hb : b < P) (h : Q (pn_nb σ e a b) ρ θ) : wp_Mo_areNear x y ρ θ Q := by
  subst hx hy
  have h7 := hP.1.1
  have hv := hP.1.2.2
  unfold wp_Mo_areNear
  have fin : ∀ w : Int32, w = σ 13 0 a b → wp_Mo_areNear_b28 Q (nI a) (nI b) w ρ θ := by
    intro w hw
    subst hw
    unfold wp_Mo_areNear_b28
    unfold pn_nb at h
    by_cases c : σ 13 0 a b = -1
    · rw [if_pos c] at h
      rw [if_pos (by rw [c]; decide)]
      unfold wp_Mo_areNear_b61 wp_Mo_areNear_b62
      exact ⟨Or.inl rfl, h⟩
    · rw [if_neg c] at h
      obtain ⟨l, hl, el, -⟩ := ((hP.2.2.2.2.2.1 a b ha hb).2).resolve_left c
      have h16 := hP.1.2.1
      rw [if_neg (by rw [el]; exact nI_pos (by omega))]
      rw [el, nI_clamp (n := l) (by omega)] at h
      refine R_isUp hN el hl ?_
      by_cases c1 : σ 18 e 0 l = 1
      · rw [if_neg (by rw [c1]; decide)]
        refine R_isOn hN rfl ha ?_
        by_cases c2 : σ 27 e a 0 = 0
        · rw [if_pos c2]
          rw [if_neg (fun z => z.2.1 c2)] at h
          unfold wp_Mo_areNear_b61 wp_Mo_areNear_b62
          exact ⟨Or.inl rfl, h⟩
        · rw [if_neg c2]
          refine R_isOn hN rfl hb ?_
          by_cases c3 : σ 27 e b 0 = 0
          · rw [if_pos c3]
            rw [if_neg (fun z => z.2.2 c3)] at h
            unfold wp_Mo_areNear_b61 wp_Mo_areNear_b62
            exact ⟨Or.inl rfl, h⟩
          · rw [if_neg c3]
            rw [if_pos ⟨c1, c2, c3⟩] at h
            unfold wp_Mo_areNear_b62
            exact ⟨Or.inr rfl, h⟩
      · rw [if_neg (fun z => c1 z.1)] at h
        have c0 : σ 18 e 0 l = 0 := (hN.2.2.2.1.1 l hl).resolve_right c1
        rw [if_pos c0]
        unfold wp_Mo_areNear_b61 wp_Mo_areNear_b62
        exact ⟨Or.inl rfl, h⟩
  by_cases ab : nI a = nI b
  · rw [if_pos ab]
    have : a = b := (nI_eq (by omega) (by omega)).mp ab
    subst this
    exact fin _ (hP.2.2.2.2.2.2.1 a ha).symm
  · rw [if_neg ab]
    have e1 : ((49 * (ρ 50 0 0 17)) + (7 * nI a)) + nI b = nI (49 * v + 7 * a + b) := by rw [hP.2.1.2.2.1]; exact ix_3 49 v 7 a b
    rw [e1, nI_clamp (by omega), (hP.2.2.2.2.2.1 a b ha hb).1]
    exact ⟨vp_in_nI (by omega) (by decide), fin _ rfl⟩
/-- the step of a link -/
def pn_st (σ : sx_M) (e l : Nat) : Int32 := if σ 8 0 0 7 = 0 then 10 else 10 * σ 19 e 0 l
theorem C_step (hP : pn_P P L v σ ρ) {e : Nat} {x : Int32} {Q : Int32 → sx_M → Prop} {l : Nat} (hx : x = nI l) (hl : l < L) (h : Q (pn_st σ e l) σ) : wp_Ne_stepOf e x σ Q := by
  subst hx
  have h16 := hP.1.2.1
  unfold wp_Ne_stepOf wp_Ne_stepOf_b24
  unfold pn_st at h
  by_cases c : σ 8 0 0 7 = 0
  · rw [if_pos c] at h ⊢
    exact h
  · rw [if_neg c] at h ⊢
    rw [nI_clamp (by omega)]
    exact ⟨vp_in_nI (by omega) (by decide), h⟩
theorem R_step (hP : pn_P P L v σ ρ) (hN : pn_N P L m σ e ρ 68 0) {x : Int32} {Q : Int32 → sx_M → sx_L → Prop} {l : Nat} (hx : x = nI l) (hl : l < L) (h : Q (pn_st σ e l) ρ θ) : wp_Mo_stepOf x ρ θ Q := by
  subst hx
  have h16 := hP.1.2.1
  have hv := hP.1.2.2
  unfold wp_Mo_stepOf wp_Mo_stepOf_b29
  unfold pn_st at h
  have ev := hP.2.1.2.2.1
  rw [ev, nI_clamp (n := v) (by omega), hP.2.2.1.2]
  refine ⟨vp_in_nI (by omega) (by decide), ?_⟩
  by_cases c : σ 8 0 0 7 = 0
  · rw [if_pos c] at h ⊢
    exact h
  · rw [if_neg c] at h ⊢
    have e1 : (10 : Int32) + nI l = nI (10 + l) := nI_add 10 l
    have e2 := (hN.2.2.2.2.2.1 l hl).1
    rw [Nat.zero_add] at e2
    rw [e1, nI_clamp (by omega), e2]
    exact ⟨vp_in_nI (by omega) (by decide), h⟩
theorem R_stepTo (hP : pn_P P L v σ ρ) (hN : pn_N P L m σ e ρ 68 0) {x y : Int32} {Q : Int32 → sx_M → sx_L → Prop} {a b l : Nat} (hx : x = nI a) (hy : y = nI b) (ha : a < P) (hb : b < P) (el : σ 13 0 a b = nI l) (hl : l < L) (h : Q (pn_st σ e l) ρ θ) : wp_Mo_stepTo x y ρ θ Q := by
  subst hx hy
  have h7 := hP.1.1
  have hv := hP.1.2.2
  unfold wp_Mo_stepTo
  have e1 : ((49 * (ρ 50 0 0 17)) + (7 * nI a)) + nI b = nI (49 * v + 7 * a + b) := by rw [hP.2.1.2.2.1]; exact ix_3 49 v 7 a b
  rw [e1, nI_clamp (by omega), (hP.2.2.2.2.2.1 a b ha hb).1]
  exact ⟨vp_in_nI (by omega) (by decide), R_step hP hN el hl h⟩
end LEAF
