/-- both answer alike, and go on alike -/
def pn_ok (A : (Int32 → sx_M → Prop) → Prop) (B : (Int32 → sx_M → sx_L → Prop) → Prop) : Prop := ∃ r σ2 ρ2 θ2, pn_I σ2 ρ2 θ2 ∧ (∀ Q : Int32 → sx_M → Prop, Q r σ2 → A Q) ∧ ∀ Q : Int32 → sx_M → sx_L → Prop, Q r ρ2 θ2 → B Q
theorem le_lt {x : Int32} {N : Nat} (hN : N < 2 ^ 30) (h0 : ¬ x < 0) (h : nI (N + 1) ≤ x) : nI N < x := by
  obtain ⟨a, ha, rfl⟩ := nI_of h0
  rw [nI_leI (by omega) ha] at h
  exact nI_lt (by omega) ha
section ACTS
variable {P L v m n k b : Nat} {σ σ2 ρ ρ2 : sx_M} {θ : sx_L}
theorem C_isTicks1 {j : Nat} (hj : j ≤ 200) {Q : Int32 → sx_M → Prop} (h : Q 1 σ) : wp_St_isTicks (nI j) σ Q := by
  unfold wp_St_isTicks wp_St_isTicks_b16
  rw [if_neg (nI_pos (by omega)), if_neg (show ¬ 200 < nI j from nI_nlt (a := 200) hj (by decide))]
  exact ⟨Or.inr rfl, h⟩
theorem C_isTicks0 {x : Int32} (hx : x < 0 ∨ 200 < x) {Q : Int32 → sx_M → Prop} (h : Q 0 σ) : wp_St_isTicks x σ Q := by
  unfold wp_St_isTicks wp_St_isTicks_b15 wp_St_isTicks_b16
  by_cases c : x < 0
  · rw [if_pos c]; exact ⟨Or.inl rfl, h⟩
  · rw [if_neg c, if_pos (hx.resolve_left c)]; exact ⟨Or.inl rfl, h⟩
theorem R_ticks1 {j : Nat} (hj : j ≤ 200) {Q : Int32 → sx_M → sx_L → Prop} (h : Q 1 ρ θ) : wp_Mo_in (nI j) 0 200 ρ θ Q := R_in1 (nI_pos (by omega)) (show ¬ 200 < nI j from nI_nlt (a := 200) hj (by decide)) h
theorem tk_ix (x : Int32) : (x < 0 ∨ 200 < x) ∨ ∃ j, j ≤ 200 ∧ x = nI j := by
  rcases pk_ix x (n := 201) (by decide) with c | c | ⟨j, hj, e⟩
  · exact Or.inl (Or.inl c)
  · by_cases c0 : x < 0
    · exact Or.inl (Or.inl c0)
    · exact Or.inl (Or.inr (le_lt (N := 200) (by decide) c0 c))
  · exact Or.inr ⟨j, by omega, e⟩
/-- promise 6 -/
theorem M_ticks (h : pn_I σ ρ θ) (x : Int32) : pn_ok (wp_St_ticks x σ) (wp_Mo_ticks x ρ θ) := by
  obtain ⟨P, L, v, m, hP, hN, hA, hW⟩ := id h
  rcases tk_ix x with c | ⟨j, hj, rfl⟩
  · refine ⟨-1, σ, ρ, θ, h, fun Q hQ => ?_, fun Q hQ => ?_⟩
    · unfold wp_St_ticks
      refine C_isTicks0 c ?_
      rw [if_pos rfl]; exact hQ
    · unfold wp_Mo_ticks
      refine R_in0 c ?_
      rw [if_pos rfl]; exact hQ
  · have z0 : ∀ (ρ : sx_M) m, pn_N P L m σ 0 ρ 67 0 → ρ 67 0 0 0 = σ 16 0 0 1 := fun ρ m h => h.2.1 0 (by decide)
    by_cases c0 : j = 0
    · subst c0
      refine ⟨σ 16 0 0 1, σ, ρ, θ, h, fun Q hQ => ?_, fun Q hQ => ?_⟩
      · unfold wp_St_ticks wp_St_ticks_b17
        refine C_isTicks1 hj ?_
        rw [if_neg (by decide), if_pos (show nI 0 ≤ 0 by decide)]
        exact ⟨1, by rw [wp_St_ticks_b19, if_pos (show nI 0 ≤ 0 by decide)]; exact hQ⟩
      · unfold wp_Mo_ticks wp_Mo_ticks_b30
        refine R_ticks1 hj ?_
        rw [if_neg (by decide), if_pos (show nI 0 ≤ 0 by decide)]
        refine ⟨in_I (n := 0) rfl (by decide) (by decide), ?_⟩
        rw [show (0 : Int32).toNatClampNeg = 0 from rfl, z0 ρ m hN]; exact hQ
    · obtain ⟨σ1, ρ1, T1, A1, W1, -, -, wC1, wR1⟩ := S_mark hP hN hA hW
      obtain ⟨m2, σ2, ρ2, T2, f2, g2, A2, wC2, wR2⟩ := S_ticks (θ := θ) j 0 m σ1 ρ1 T1 A1
      obtain ⟨ρ3, I3, N3, -, wR3⟩ := R_keepsRow T2 A2 (W1.mvF f2.1 g2)
      have nj : ¬ nI j ≤ 0 := nI_nle (by omega) (by omega)
      refine ⟨σ2 16 0 0 1, σ2, ρ3, θ, I3, fun Q hQ => ?_, fun Q hQ => ?_⟩
      · unfold wp_St_ticks wp_St_ticks_b17
        refine C_isTicks1 hj ?_
        rw [if_neg (by decide), if_neg nj]
        refine wC1 _ ?_
        refine wC2 (fun f i σ => wp_St_ticks_b19 Q f (nI j) i σ) (nI j) (fun f i σ hi hw => ?_) (fun i _ hi => nI_ge (by omega) (by omega)) ⟨1, ?_⟩
        · show wp_St_ticks_b19 Q (f + 1) (nI j) i σ
          rw [wp_St_ticks_b19, if_neg hi]; exact hw
        · show wp_St_ticks_b19 Q 1 (nI j) _ σ2
          rw [wp_St_ticks_b19, if_pos (nI_le (by omega) (by omega))]; exact hQ
      · unfold wp_Mo_ticks wp_Mo_ticks_b30
        refine R_ticks1 hj ?_
        rw [if_neg (by decide), if_neg nj]
        refine wR1 _ ?_
        unfold wp_Mo_goes
        refine wR2 (fun f i ρ θ => wp_Mo_goes_b2 _ f (nI j) i ρ θ) (nI j) (fun f i ρ θ hi hw => ?_) (fun i _ hi => nI_ge (by omega) (by omega)) ⟨1, ?_⟩
        · show wp_Mo_goes_b2 _ (f + 1) (nI j) i ρ θ
          rw [wp_Mo_goes_b2, if_neg hi]; exact hw
        · show wp_Mo_goes_b2 _ 1 (nI j) _ ρ2 θ
          rw [wp_Mo_goes_b2, if_pos (nI_le (by omega) (by omega))]
          refine wR3 _ ⟨in_I (n := 0) rfl (by decide) (by decide), ?_⟩
          rw [show (0 : Int32).toNatClampNeg = 0 from rfl, show ρ3 67 0 0 0 = σ2 16 0 0 1 from N3.2.1 0 (by decide)]; exact hQ
/-- the end of what is done: all choose, and it stands -/
theorem S_end (hT : pn_T P L v m 0 σ ρ) (hW : pn_W P L σ ρ θ) : ∃ σ2 ρ2, pn_I σ2 ρ2 θ ∧ (∀ Q : sx_M → Prop, Q σ2 → wp_En_allChoose 0 σ Q) ∧ (∀ Q : sx_M → sx_L → Prop, Q ρ2 θ → wp_Mo_allChoose ρ θ (fun ρ θ => wp_Mo_keepsRow ρ θ Q)) := by
  obtain ⟨m2, σ2, ρ2, T2, f2, g2, A2, wC2, wR2⟩ := S_all (θ := θ) hT
  obtain ⟨ρ3, I3, -, -, wR3⟩ := R_keepsRow T2 A2 (hW.mvF f2.F.1 g2.G)
  exact ⟨σ2, ρ3, I3, wC2, fun Q hQ => wR2 _ (wR3 Q hQ)⟩
theorem R_up (hN : pn_N P L m σ 0 ρ k 0) {j : Nat} (hj : j < L) : ((ρ k 0 0 8) >>> (nI j &&& 31)) &&& 1 = σ 18 0 0 j := by
  have h16 := hN.1.2
  have : ρ k 0 0 8 = nI (pn_b (σ 18 0 0) L) := hN.2.2.2.1.2
  rw [this, b_I _ hj h16]
  rcases hN.2.2.2.1.1 j hj with z | z
  · rw [if_neg (by rw [z]; decide), z]
  · rw [if_pos z, z]
theorem R_onb (hN : pn_N P L m σ 0 ρ k 0) {j : Nat} (hj : j < P) : ((ρ k 0 0 9) >>> (nI j &&& 31)) &&& 1 = σ 27 0 j 0 := by
  have h16 := hN.1.1
  have : ρ k 0 0 9 = nI (pn_b (fun p => σ 27 0 p 0) P) := hN.2.2.2.2.1.2
  rw [this, b_I _ hj (by omega)]
  rcases hN.2.2.2.2.1.1 j hj with z | z
  · rw [if_neg (by rw [z]; decide), z]
  · rw [if_pos z, z]
/-- promise 7 -/
theorem M_join (h : pn_I σ ρ θ) (x y : Int32) (hy : pn_z y) : pn_ok (wp_St_join x y σ) (wp_Mo_join x y ρ θ) := by
  obtain ⟨P, L, v, m, hP, hN, hA, hW⟩ := id h
  have hL := hP.1.2.1
  have c8 : (8 : Int32).toNatClampNeg = 8 := rfl
  have i8 : vp_in 8 643 := in_I (n := 8) rfl (by decide) (by decide)
  have none_ : (x < 0 ∨ nI L ≤ x) → pn_ok (wp_St_join x y σ) (wp_Mo_join x y ρ θ) := fun c => by
    refine ⟨0, σ, ρ, θ, h, fun Q hQ => ?_, fun Q hQ => ?_⟩
    · unfold wp_St_join wp_St_join_b23
      refine C_isLink0 hP c ?_
      rw [if_pos rfl]; exact hQ
    · unfold wp_Mo_join wp_Mo_join_b31
      refine R_isLink0 hP c ?_
      rw [if_pos rfl]; exact hQ
  rcases pk_ix x (n := L) (by omega) with c | c | ⟨j, hj, rfl⟩
  · exact none_ (Or.inl c)
  · exact none_ (Or.inr c)
  · have cj : (nI j).toNatClampNeg = j := nI_clamp (by omega)
    have ij : vp_in (nI j) 16 := vp_in_nI (by omega) (by decide)
    have zj := hN.2.2.2.1.1 j hj
    have cUp : ∀ Q : Int32 → sx_M → Prop, Q (σ 18 0 0 j) σ → wp_Ne_isUp 0 (nI j) σ Q := fun Q hQ => by
      unfold wp_Ne_isUp wp_Ne_isUp_b15
      rw [cj]
      refine ⟨ij, ?_⟩
      rcases zj with z | z
      · rw [z] at hQ ⊢; rw [if_neg (by decide)]; exact ⟨Or.inl rfl, hQ⟩
      · rw [z] at hQ ⊢; rw [if_pos rfl]; exact ⟨Or.inr rfl, hQ⟩
    have rJ : ∀ Q : Int32 → sx_M → sx_L → Prop, wp_Mo_join_b28 Q (nI j) (σ 18 0 0 j) y ρ θ → wp_Mo_join (nI j) y ρ θ Q := fun Q hQ => by
      unfold wp_Mo_join
      refine R_isLink1 hP rfl hj ?_
      rw [if_neg (by decide), c8, R_up hN hj]
      refine ⟨i8, ?_⟩
      rcases hy with z | z
      · rw [if_pos z]; rw [z] at hQ; exact hQ
      · rw [if_neg (by rw [z]; decide)]; rw [z] at hQ; exact hQ
    by_cases c1 : σ 18 0 0 j = y
    · refine ⟨0, σ, ρ, θ, h, fun Q hQ => ?_, fun Q hQ => ?_⟩
      · unfold wp_St_join wp_St_join_b23
        refine C_isLink1 hP rfl hj ?_
        rw [if_neg (by decide)]
        refine cUp _ ?_
        rw [if_pos c1]; exact hQ
      · refine rJ Q ?_
        unfold wp_Mo_join_b28 wp_Mo_join_b31
        rw [if_pos c1]; exact hQ
    · obtain ⟨σ1, ρ1, T1, A1, W1, s1, k1, wC1, wR1⟩ := S_mark hP hN hA hW
      obtain ⟨σ2, e2⟩ : ∃ z, z = sx_u σ1 18 0 0 j y := ⟨_, rfl⟩
      obtain ⟨ρ2, r2⟩ : ∃ z, z = sx_u ρ1 68 0 0 8 ((ρ1 68 0 0 8) ^^^ (1 <<< (nI j &&& 31))) := ⟨_, rfl⟩
      have o2 : ∀ q n p, ¬ (q = 18 ∧ n = 0 ∧ p = 0) → σ2 q n p = σ1 q n p := fun q n p h => by rw [e2, sx_u_row _ _ _ _ _ _ h]
      have p2 : ∀ q n p, ¬ (q = 68 ∧ n = 0 ∧ p = 0) → ρ2 q n p = ρ1 q n p := fun q n p h => by rw [r2, sx_u_row _ _ _ _ _ _ h]
      have u2 : ∀ l, ¬ l = j → σ2 18 0 0 l = σ1 18 0 0 l := fun l hl => by rw [e2, sx_u_at, if_neg (by omega)]
      have u2j : σ2 18 0 0 j = y := by rw [e2, sx_u_at]; simp
      have s18 : σ1 18 0 0 = σ 18 0 0 := s1 18 0 (by decide) (by decide)
      have N2 : pn_N P L m σ2 0 ρ2 68 0 := by
        refine T1.2.2.1.setU (fun q p hq => o2 q 0 p (by omega)) (fun i hi => by rw [r2, sx_u_at, if_neg (by omega)]) (fun l hl => ?_) ?_
        · by_cases cl : l = j
          · rw [cl, u2j]; exact hy
          · rw [u2 l cl]; exact T1.2.2.1.2.2.2.1.1 l hl
        · have e8 : ρ1 68 0 0 8 = nI (pn_b (σ1 18 0 0) L) := T1.2.2.1.2.2.2.1.2
          rw [r2, sx_u_at, if_pos ⟨rfl, rfl, rfl, rfl⟩, e8]
          exact pn_b_flip hj hL (fun l hl => T1.2.2.1.2.2.2.1.1 l hl) u2 (by rw [u2j]; exact hy) (by rw [u2j, s18]; exact fun z => c1 z.symm)
      have T2 : pn_T P L v m 0 σ2 ρ2 := ⟨T1.1, T1.2.1.mvA (fun k n p h1 h2 => o2 k n p (by omega)) (by rw [p2 50 0 0 (by decide)]) (fun k h1 h2 => p2 k 0 0 (by omega)), N2, by rw [o2 31 0 0 (by decide), p2 50 0 0 (by decide)]; exact T1.2.2.2⟩
      have W2 : pn_W P L σ2 ρ2 θ := W1.mvF (fun k n p hk => o2 k n p (by omega)) (fun k n p hk => p2 k n p (by omega))
      obtain ⟨σ3, ρ3, I3, wC3, wR3⟩ := S_end T2 W2
      refine ⟨1, σ3, ρ3, θ, I3, fun Q hQ => ?_, fun Q hQ => ?_⟩
      · have fin : wp_St_join_b46 Q 0 (nI j) y σ1 := by
          unfold wp_St_join_b46
          rw [cj]
          refine ⟨ij, fun _ q => ?_⟩
          rw [← e2] at q; subst q
          exact wC3 _ hQ
        unfold wp_St_join
        refine C_isLink1 hP rfl hj ?_
        rw [if_neg (by decide)]
        refine cUp _ ?_
        rw [if_neg c1]
        refine wC1 _ ?_
        rcases hy with z | z
        · rw [if_pos z]; rw [z] at fin; exact fin
        · rw [if_neg (by rw [z]; decide)]; rw [z] at fin; exact fin
      · refine rJ Q ?_
        unfold wp_Mo_join_b28
        rw [if_neg c1]
        refine wR1 _ ⟨i8, i8, fun _ q => ?_⟩
        rw [c8, ← r2] at q; subst q
        exact wR3 _ hQ
/-- promise 8 -/
theorem M_cost (h : pn_I σ ρ θ) (x y : Int32) : pn_ok (wp_St_cost x y σ) (wp_Mo_cost x y ρ θ) := by
  obtain ⟨P, L, v, m, hP, hN, hA, hW⟩ := id h
  have hL := hP.1.2.1
  have none_ : (x < 0 ∨ nI L ≤ x) → pn_ok (wp_St_cost x y σ) (wp_Mo_cost x y ρ θ) := fun c => by
    refine ⟨0, σ, ρ, θ, h, fun Q hQ => ?_, fun Q hQ => ?_⟩
    · unfold wp_St_cost wp_St_cost_b35
      refine C_isLink0 hP c ?_
      rw [if_pos rfl]; exact hQ
    · unfold wp_Mo_cost wp_Mo_cost_b31
      refine R_isLink0 hP c ?_
      rw [if_pos rfl]; exact hQ
  rcases pk_ix x (n := L) (by omega) with c | c | ⟨j, hj, rfl⟩
  · exact none_ (Or.inl c)
  · exact none_ (Or.inr c)
  · have cj : (nI j).toNatClampNeg = j := nI_clamp (by omega)
    have ij : vp_in (nI j) 16 := vp_in_nI (by omega) (by decide)
    have e10 : (10 : Int32) + nI j = nI (10 + j) := nI_add 10 j
    have c10 := cl_I e10 (by omega)
    have i10 : vp_in (10 + nI j) 643 := in_I e10 (by omega) (by decide)
    have v10 : ρ 67 0 0 (10 + j) = σ 19 0 0 j := by
      have := (hN.2.2.2.2.2.1 j hj).1
      rw [Nat.zero_add] at this; exact this
    by_cases c1 : y < 1 ∨ 9 < y
    · refine ⟨0, σ, ρ, θ, h, fun Q hQ => ?_, fun Q hQ => ?_⟩
      · unfold wp_St_cost wp_St_cost_b35
        refine C_isLink1 hP rfl hj ?_
        rw [if_neg (by decide)]
        by_cases c2 : y < 1
        · rw [if_pos c2]; exact hQ
        · rw [if_neg c2, if_pos (c1.resolve_left c2)]; exact hQ
      · unfold wp_Mo_cost wp_Mo_cost_b31
        refine R_isLink1 hP rfl hj ?_
        rw [if_neg (by decide)]
        refine R_in0 c1 ?_
        rw [if_pos rfl]; exact hQ
    · have c2 : ¬ y < 1 := fun z => c1 (Or.inl z)
      have c3 : ¬ 9 < y := fun z => c1 (Or.inr z)
      by_cases c4 : σ 19 0 0 j = y
      · refine ⟨0, σ, ρ, θ, h, fun Q hQ => ?_, fun Q hQ => ?_⟩
        · unfold wp_St_cost wp_St_cost_b35
          refine C_isLink1 hP rfl hj ?_
          rw [if_neg (by decide), if_neg c2, if_neg c3, cj, if_pos c4]
          exact ⟨ij, hQ⟩
        · unfold wp_Mo_cost wp_Mo_cost_b31
          refine R_isLink1 hP rfl hj ?_
          rw [if_neg (by decide)]
          refine R_in1 c2 c3 ?_
          rw [if_neg (by decide), c10, v10, if_pos c4]
          exact ⟨i10, hQ⟩
      · obtain ⟨σ1, ρ1, T1, A1, W1, s1, k1, wC1, wR1⟩ := S_mark hP hN hA hW
        obtain ⟨σ2, e2⟩ : ∃ z, z = sx_u σ1 19 0 0 j y := ⟨_, rfl⟩
        obtain ⟨ρ2, r2⟩ : ∃ z, z = sx_u ρ1 68 0 0 (10 + j) y := ⟨_, rfl⟩
        have o2 : ∀ q n p, ¬ (q = 19 ∧ n = 0 ∧ p = 0) → σ2 q n p = σ1 q n p := fun q n p h => by rw [e2, sx_u_row _ _ _ _ _ _ h]
        have p2 : ∀ q n p, ¬ (q = 68 ∧ n = 0 ∧ p = 0) → ρ2 q n p = ρ1 q n p := fun q n p h => by rw [r2, sx_u_row _ _ _ _ _ _ h]
        have yc : ∃ c, 1 ≤ c ∧ c ≤ 9 ∧ y = nI c := by
          have y0 : ¬ y < 0 := fun z => c2 (Int32.lt_trans z (by decide))
          obtain ⟨a, ha, rfl⟩ := nI_of y0
          refine ⟨a, ?_, ?_, rfl⟩
          · exact Nat.le_of_not_lt fun z => c2 (nI_lt (b := 1) z (by decide))
          · exact Nat.le_of_not_lt fun z => c3 (nI_lt (a := 9) z ha)
        have N2 : pn_N P L m σ2 0 ρ2 68 0 := by
          refine T1.2.2.1.setK (l0 := j) (fun q p hq => o2 q 0 p (by omega)) (fun l hl => by rw [e2, sx_u_at, if_neg (by omega)]) (fun i hi => by rw [r2, sx_u_at, if_neg (by omega)]) hj ⟨?_, ?_⟩
          · rw [r2, sx_u_at, if_pos ⟨rfl, rfl, rfl, by omega⟩, e2, sx_u_at, if_pos ⟨rfl, rfl, rfl, rfl⟩]
          · rw [e2, sx_u_at, if_pos ⟨rfl, rfl, rfl, rfl⟩]; exact yc
        have T2 : pn_T P L v m 0 σ2 ρ2 := ⟨T1.1, T1.2.1.mvA (fun k n p h1 h2 => o2 k n p (by omega)) (by rw [p2 50 0 0 (by decide)]) (fun k h1 h2 => p2 k 0 0 (by omega)), N2, by rw [o2 31 0 0 (by decide), p2 50 0 0 (by decide)]; exact T1.2.2.2⟩
        have W2 : pn_W P L σ2 ρ2 θ := W1.mvF (fun k n p hk => o2 k n p (by omega)) (fun k n p hk => p2 k n p (by omega))
        obtain ⟨σ3, ρ3, I3, wC3, wR3⟩ := S_end T2 W2
        refine ⟨1, σ3, ρ3, θ, I3, fun Q hQ => ?_, fun Q hQ => ?_⟩
        · unfold wp_St_cost
          refine C_isLink1 hP rfl hj ?_
          rw [if_neg (by decide), if_neg c2, if_neg c3, cj, if_neg c4]
          refine ⟨ij, wC1 _ ⟨ij, fun _ q => ?_⟩⟩
          rw [← e2] at q; subst q
          exact wC3 _ hQ
        · unfold wp_Mo_cost
          refine R_isLink1 hP rfl hj ?_
          rw [if_neg (by decide)]
          refine R_in1 c2 c3 ?_
          rw [if_neg (by decide), c10, v10, if_neg c4]
          refine ⟨i10, wR1 _ ⟨i10, fun _ q => ?_⟩⟩
          rw [← r2] at q; subst q
          exact wR3 _ hQ
end ACTS
