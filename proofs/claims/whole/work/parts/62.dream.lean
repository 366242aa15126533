def pn_yr (ρ ρ2 : sx_M) : Prop := (∀ k, ¬ (k = 50 ∨ k = 68 ∨ k = 69 ∨ k = 74) → ρ2 k 0 0 = ρ k 0 0) ∧ ∀ j, ¬ j = 31 → ρ2 50 0 0 j = ρ 50 0 0 j
section DREAM
variable {P L v m e : Nat} {σ σ2 ρ ρ2 : sx_M} {θ : sx_L} {w : Int32} {d : Nat → Nat}
theorem pn_yr.rf : pn_yr ρ ρ := ⟨fun _ _ => rfl, fun _ _ => rfl⟩
theorem pn_yr.tr {a b c : sx_M} (h : pn_yr a b) (h2 : pn_yr b c) : pn_yr a c := ⟨fun k q => (h2.1 k q).trans (h.1 k q), fun j q => (h2.2 j q).trans (h.2 j q)⟩
theorem pn_P.yr (h : pn_P P L v σ ρ) (hy : pn_yr ρ ρ2) : pn_P P L v σ ρ2 := h.mvA (fun _ _ _ _ _ => rfl) (hy.2 17 (by decide)) (fun k h1 h2 => hy.1 k (by omega))
theorem pn_G.yr (h : pn_G ρ ρ2) : pn_yr ρ ρ2 := ⟨fun k q => h k 0 0 (by omega), fun j _ => by rw [h 50 0 0 (by decide)]⟩
theorem tF.yr (h : tF 74 ρ ρ2) : pn_yr ρ ρ2 := ⟨fun k q => h k 0 0 (by omega), fun j _ => by rw [h 50 0 0 (by decide)]⟩
theorem pn_qr.yr {ρ0 : sx_M} (q : pn_qr ρ0 ρ) (h : pn_yr ρ ρ2) (z : ρ2 50 0 0 31 = 0) : pn_qr ρ0 ρ2 := ⟨fun k hk => by rw [h.1 k (by omega)]; exact q.1 k hk, fun j hj => by rw [h.2 j (by omega)]; exact q.2.1 j hj, z⟩
theorem pn_yr.qr (h : pn_yr ρ ρ2) (z : ρ2 50 0 0 31 = 0) : pn_qr ρ ρ2 := ⟨fun k hk => h.1 k (by omega), fun j hj => h.2 j (by omega), z⟩
theorem R_copies2 (hP : pn_P P L v σ ρ) (hN : pn_N P L m σ 0 ρ 67 0) :
    ∃ ρ2, pn_P P L v σ ρ2 ∧ pn_N P L m σ 0 ρ2 68 0 ∧ pn_yr ρ ρ2 ∧ ρ2 50 0 0 31 = 0 ∧ ∀ Q : sx_M → sx_L → Prop, Q ρ2 θ → wp_Mo_copies ρ θ Q := by
  obtain ⟨hm, hmr, hmc⟩ := hN.2.2.1
  obtain ⟨ρ1, a1, a2, a3, w⟩ := R_now_row (ρ := ρ) (θ := θ) (bf := 0) (bt := 0) (m := m) rfl rfl hm hmr (by decide) (by decide)
  obtain ⟨ρ2, e2⟩ : ∃ x, x = sx_u ρ1 50 0 0 31 0 := ⟨_, rfl⟩
  have o2 : ∀ k n p, ¬ k = 50 → ρ2 k n p = ρ1 k n p := fun k n p h => by rw [e2, sx_u_row _ _ _ _ _ _ (by omega)]
  have o5 : ∀ j, ¬ j = 31 → ρ2 50 0 0 j = ρ 50 0 0 j := fun j h => by rw [e2, sx_u_at, if_neg (by omega), a1 50 0 0 (by decide)]
  have y : pn_yr ρ ρ2 := ⟨fun k h => by rw [o2 k 0 0 (by omega), a1 k 0 0 (by omega)], o5⟩
  have N2 : pn_N P L m σ 0 ρ2 68 0 := hN.cR (fun j hj => by rw [o2 68 0 0 (by decide)]; exact a2 j hj)
  refine ⟨ρ2, hP.yr y, N2, y, by rw [e2, sx_u_at]; simp, fun Q hQ => ?_⟩
  unfold wp_Mo_copies
  refine w _ (fun _ z => ?_)
  rw [← e2] at z
  subst z
  exact hQ
/-- a trial -/
def pn_tt (P : Nat) (σ σ2 : sx_M) : Prop := (∀ q l, (q = 18 ∨ q = 19) → l < 16 → σ2 q 1 0 l = σ q 0 0 l) ∧ ∀ p, p < P → σ2 27 1 p 0 = σ 27 0 p 0
theorem pn_tt.F {a b c : sx_M} (h : pn_tt P a b) (f : pn_F 1 b c) : pn_tt P a c := ⟨fun q l hq hl => by rw [f.2.1 q 0 hq]; exact h.1 q l hq hl, fun p hp => (f.2.2 p).trans (h.2 p hp)⟩
theorem tD.tt (hD : tD P L σ 0 w d) (hP : pn_P P L v σ ρ) (hf : ∀ k n p, 8 ≤ k → k < 16 → σ2 k n p = σ k n p) (h : pn_tt P σ σ2) : tD P L σ2 1 w d := hD.mv hP hf (fun q l hq hl => h.1 q l hq (by have := hP.1.2.1; omega)) h.2
theorem S_try (hP : pn_P P L v σ ρ) (hN : pn_N P L m σ 0 ρ 68 0) (hA : pn_A P σ 0) : ∃ σ1, pn_P P L v σ1 ρ ∧ pn_N P L m σ1 1 ρ 68 0 ∧ pn_A P σ1 1 ∧ pn_cf 1 σ σ1 ∧ pn_tt P σ σ1 ∧ ∀ Q : sx_M → Prop, Q σ1 → wp_Ne_copyFrom 1 0 σ Q := by
  obtain ⟨hm, hmr, hmc⟩ := hN.2.2.1
  obtain ⟨σ1, cn, cf, wc⟩ := C_ncopy hP (n := 1) (n1 := 0) (by decide) hm hmc hN.2.2.2.2.1.1
  exact ⟨σ1, hP.mvA (fun k n p h1 h2 => cf k n p (by omega)) rfl (fun _ _ _ => rfl), hN.cn cn, pn_A.cn hP hN hA cf cn, cf, ⟨cn.2.1, fun p hp => cn.2.2.1 p 0 hp (by omega)⟩, wc⟩
theorem S_dream (hP : pn_P P L v σ ρ) (hN : pn_N P L m σ 0 ρ 68 0) (hA : pn_A P σ 0) (h31 : σ 31 1 0 3 = 0) {x : Int32} (hx : ρ 50 0 0 31 = x) {j : Nat} (hj : j ≤ 200) :
    ∃ m2 σ2 ρ2, pn_P P L v σ2 ρ2 ∧ pn_N P L m2 σ2 1 ρ2 68 0 ∧ pn_qc σ σ2 ∧ pn_G ρ ρ2 ∧ pn_tt P σ σ2 ∧ σ2 33 0 0 = σ 33 0 0 ∧ (∀ Q : sx_M → Prop, Q σ2 → wp_St_dreamOn (nI j) x σ Q) ∧ (∀ Q : sx_M → sx_L → Prop, Q ρ2 θ → wp_Mo_goes (nI j) ρ θ Q) := by
  obtain ⟨σ0, P0, N0, A0, cf, tt, wc⟩ := S_try hP hN hA
  obtain ⟨σ1, e1⟩ : ∃ y, y = sx_u σ0 31 1 0 3 x := ⟨_, rfl⟩
  have o1 : ∀ k n p, ¬ (k = 31 ∧ n = 1 ∧ p = 0) → σ1 k n p = σ0 k n p := fun k n p h => by rw [e1, sx_u_row _ _ _ _ _ _ h]
  have T1 : pn_T P L v m 1 σ1 ρ := ⟨by decide, P0.mvA (fun k n p h1 h2 => o1 k n p (by omega)) rfl (fun _ _ _ => rfl), N0.mv (fun k p h1 h2 => o1 k 1 p (by omega)) rfl, by rw [e1, sx_u_at, if_pos ⟨rfl, rfl, rfl, rfl⟩, hx]⟩
  have A1 : pn_A P σ1 1 := A0.mw8 (fun k p h1 h2 => o1 k 1 p (by omega)) (fun k n p h1 h2 => o1 k n p (by omega))
  have t1 : pn_tt P σ σ1 := ⟨fun q l hq hl => by rw [o1 q 1 0 (by omega)]; exact tt.1 q l hq hl, fun p hp => by rw [o1 27 1 p (by omega)]; exact tt.2 p hp⟩
  obtain ⟨m2, σ2, ρ2, T2, f2, g2, A2, wC2, wR2⟩ := S_ticks (θ := θ) j 0 m σ1 ρ T1 A1
  obtain ⟨σ3, e3⟩ : ∃ y, y = sx_u σ2 31 1 0 3 0 := ⟨_, rfl⟩
  have o3 : ∀ k n p, ¬ (k = 31 ∧ n = 1 ∧ p = 0) → σ3 k n p = σ2 k n p := fun k n p h => by rw [e3, sx_u_row _ _ _ _ _ _ h]
  have r31 : σ3 31 1 0 = σ 31 1 0 := funext fun i => by
    rw [e3, sx_u_at]
    by_cases c : i = 3
    · rw [if_pos ⟨rfl, rfl, rfl, c⟩, c, h31]
    · rw [if_neg (fun z => c z.2.2.2), f2.1 31 1 0 (by omega), e1, sx_u_at, if_neg (fun z => c z.2.2.2), cf 31 1 0 (by omega)]
  have qc : pn_qc σ σ3 := fun k n p hk => by
    by_cases c : k = 31 ∧ n = 1 ∧ p = 0
    · obtain ⟨rfl, rfl, rfl⟩ := c; exact r31
    · rw [o3 k n p c, f2.1 k n p (by omega), o1 k n p c, cf k n p (by omega)]
  have t3 := t1.F f2
  refine ⟨m2, σ3, ρ2, T2.2.1.mvA (fun k n p h1 h2 => o3 k n p (by omega)) rfl (fun _ _ _ => rfl), T2.2.2.1.mv (fun k p h1 h2 => o3 k 1 p (by omega)) rfl, qc, g2, ⟨fun q l hq hl => by rw [o3 q 1 0 (by omega)]; exact t3.1 q l hq hl, fun p hp => by rw [o3 27 1 p (by omega)]; exact t3.2 p hp⟩, by rw [o3 33 0 0 (by omega), f2.1 33 0 0 (by omega), o1 33 0 0 (by omega), cf 33 0 0 (by omega)], fun Q hQ => ?_, fun Q hQ => ?_⟩
  · unfold wp_St_dreamOn
    refine wc _ (fun σ5 q => ?_)
    rw [q, ← e1]
    refine wC2 (fun f i σ => wp_St_dreamOn_b21 Q f (nI j) i σ) (nI j) (fun f i σ hi hw => ?_) (fun i _ hi => nI_ge (by omega) (by omega)) ⟨1, ?_⟩
    · show wp_St_dreamOn_b21 Q (f + 1) (nI j) i σ
      rw [wp_St_dreamOn_b21, if_neg hi]; exact hw
    · show wp_St_dreamOn_b21 Q 1 (nI j) _ σ2
      rw [wp_St_dreamOn_b21, if_pos (nI_le (by omega) (by omega))]
      intro σ6 q6
      rw [q6, ← e3]; exact hQ
  · unfold wp_Mo_goes
    refine wR2 (fun f i ρ θ => wp_Mo_goes_b2 _ f (nI j) i ρ θ) (nI j) (fun f i ρ θ hi hw => ?_) (fun i _ hi => nI_ge (by omega) (by omega)) ⟨1, ?_⟩
    · show wp_Mo_goes_b2 _ (f + 1) (nI j) i ρ θ
      rw [wp_Mo_goes_b2, if_neg hi]; exact hw
    · show wp_Mo_goes_b2 _ 1 (nI j) _ ρ2 θ
      rw [wp_Mo_goes_b2, if_pos (nI_le (by omega) (by omega))]
      exact hQ
theorem R_said (hN : pn_N P L m σ e ρ 68 0) {Q : Int32 → sx_M → sx_L → Prop} (h : Q (((σ 16 e 0 2) + (σ 16 e 0 3)) + (σ 16 e 0 4)) ρ θ) : wp_Mo_said ρ θ Q := by
  have f : ∀ i, i < 7 → ρ 68 0 0 i = σ 16 e 0 (i + 1) := fun i hi => by
    have := hN.2.1 i hi
    rw [Nat.zero_add] at this; exact this
  unfold wp_Mo_said
  rw [show (1 : Int32).toNatClampNeg = 1 from rfl, show (2 : Int32).toNatClampNeg = 2 from rfl, show (3 : Int32).toNatClampNeg = 3 from rfl, f 1 (by decide), f 2 (by decide), f 3 (by decide)]
  exact ⟨in_I (n := 1) rfl (by decide) (by decide), in_I (n := 2) rfl (by decide) (by decide), in_I (n := 3) rfl (by decide) (by decide), h⟩
/-- promise 26 -/
theorem M_busy (h : pn_I σ ρ θ) (x : Int32) : pn_ok (wp_St_busy x σ) (wp_Mo_busy x ρ θ) := by
  obtain ⟨P, L, v, m, hP, hN, hA, hW⟩ := id h
  rcases tk_ix x with c | ⟨j, hj, rfl⟩
  · refine ⟨-1, σ, ρ, θ, h, fun Q hQ => ?_, fun Q hQ => ?_⟩
    · unfold wp_St_busy
      refine C_isTicks0 c ?_
      rw [if_pos rfl]; exact hQ
    · unfold wp_Mo_busy
      refine R_in0 c ?_
      rw [if_pos rfl]; exact hQ
  · obtain ⟨ρ1, T1, q1, w1⟩ := R_copies hP hN hW
    obtain ⟨m2, σ2, ρ2, P2, N2, qc, g2, tt, -, wC, wR⟩ := S_dream (θ := θ) T1.2.1 T1.2.2.1 hA hW.2.2.2.1.2.1 (x := 0) q1.2.2 hj
    refine ⟨(((σ2 16 1 0 2) + (σ2 16 1 0 3)) + (σ2 16 1 0 4)) - (((σ 16 0 0 2) + (σ 16 0 0 3)) + (σ 16 0 0 4)), σ2, ρ2, θ, h.look qc (q1.yr g2.yr (by rw [g2 50 0 0 (by decide)]; exact q1.2.2)), fun Q hQ => ?_, fun Q hQ => ?_⟩
    · unfold wp_St_busy
      refine C_isTicks1 hj ?_
      rw [if_neg (by decide)]
      refine wC _ ?_
      unfold wp_Ne_messagesPut
      show Q (((σ2 16 1 0 2 + σ2 16 1 0 3) + σ2 16 1 0 4) - ((σ2 16 0 0 2 + σ2 16 0 0 3) + σ2 16 0 0 4)) σ2
      rw [qc 16 0 0 (by omega)]; exact hQ
    · unfold wp_Mo_busy
      refine R_ticks1 hj ?_
      rw [if_neg (by decide)]
      exact w1 _ (R_said T1.2.2.1 (wR _ (R_said N2 hQ)))
/-- promise 34 -/
theorem M_then (h : pn_I σ ρ θ) (x y z : Int32) : pn_ok (wp_St_then x y z σ) (wp_Mo_then x y z ρ θ) := by
  obtain ⟨P, L, v, m, hP, hN, hA, hW⟩ := id h
  have h7 := hP.1.1
  have none_ : (x < 0 ∨ nI P ≤ x) → pn_ok (wp_St_then x y z σ) (wp_Mo_then x y z ρ θ) := fun c => by
    refine ⟨-1, σ, ρ, θ, h, fun Q hQ => ?_, fun Q hQ => ?_⟩
    · unfold wp_St_then wp_St_then_b27
      refine C_isPost0 hP c ?_
      rw [if_pos rfl]; exact hQ
    · unfold wp_Mo_then wp_Mo_then_b28
      refine R_isPost0 hP c ?_
      rw [if_pos rfl]; exact hQ
  rcases pk_ix x (n := P) (by omega) with c | c | ⟨i, hi, rfl⟩
  · exact none_ (Or.inl c)
  · exact none_ (Or.inr c)
  rcases tk_ix y with c | ⟨j, hj, rfl⟩
  · refine ⟨-1, σ, ρ, θ, h, fun Q hQ => ?_, fun Q hQ => ?_⟩
    · unfold wp_St_then wp_St_then_b27
      refine C_isPost1 hP rfl hi ?_
      rw [if_neg (by decide)]
      refine C_isTicks0 c ?_
      rw [if_pos rfl]; exact hQ
    · unfold wp_Mo_then wp_Mo_then_b28
      refine R_isPost1 hP rfl hi ?_
      rw [if_neg (by decide)]
      refine R_in0 c ?_
      rw [if_pos rfl]; exact hQ
  by_cases z0 : z < 0
  · refine ⟨-1, σ, ρ, θ, h, fun Q hQ => ?_, fun Q hQ => ?_⟩
    · unfold wp_St_then wp_St_then_b27
      refine C_isPost1 hP rfl hi ?_
      rw [if_neg (by decide)]
      refine C_isTicks1 hj ?_
      rw [if_neg (by decide), if_pos z0]; exact hQ
    · unfold wp_Mo_then wp_Mo_then_b28
      refine R_isPost1 hP rfl hi ?_
      rw [if_neg (by decide)]
      refine R_ticks1 hj ?_
      rw [if_neg (by decide)]
      refine R_in0 (Or.inl z0) ?_
      rw [if_pos rfl]; exact hQ
  by_cases z1 : z ≤ 1
  · obtain ⟨ρ1, T1, q1, w1⟩ := R_copies hP hN hW
    obtain ⟨m2, σ2, ρ2, P2, N2, qc, g2, tt, -, wC, wR⟩ := S_dream (θ := θ) T1.2.1 T1.2.2.1 hA hW.2.2.2.1.2.1 (x := 0) q1.2.2 hj
    have ci : (nI i).toNatClampNeg = i := nI_clamp (by omega)
    have ii : vp_in (nI i) 7 := vp_in_nI (by omega) (by decide)
    refine ⟨if z = 0 then σ2 27 1 i 2 else σ2 27 1 i 3, σ2, ρ2, θ, h.look qc (q1.yr g2.yr (by rw [g2 50 0 0 (by decide)]; exact q1.2.2)), fun Q hQ => ?_, fun Q hQ => ?_⟩
    · unfold wp_St_then wp_St_then_b66
      refine C_isPost1 hP rfl hi ?_
      rw [if_neg (by decide)]
      refine C_isTicks1 hj ?_
      rw [if_neg (by decide), if_neg z0, if_pos z1]
      refine wC _ ?_
      rw [ci]
      by_cases c : z = 0
      · rw [if_pos c] at hQ ⊢; exact ⟨ii, hQ⟩
      · rw [if_neg c] at hQ ⊢; exact ⟨ii, hQ⟩
    · unfold wp_Mo_then wp_Mo_then_b50
      refine R_isPost1 hP rfl hi ?_
      rw [if_neg (by decide)]
      refine R_ticks1 hj ?_
      rw [if_neg (by decide)]
      refine R_in1 z0 (Int32.not_lt.mpr z1) ?_
      rw [if_neg (by decide)]
      refine w1 _ (wR _ ?_)
      by_cases c : z = 0
      · rw [if_pos c] at hQ ⊢
        refine R_of (i := 1) rfl rfl (by omega) (by decide) ?_
        rw [N2.fl hi (w := 1) (by decide)]; exact hQ
      · rw [if_neg c] at hQ ⊢
        refine R_of (i := 2) rfl rfl (by omega) (by decide) ?_
        rw [N2.fl hi (w := 2) (by decide)]; exact hQ
  · refine ⟨-1, σ, ρ, θ, h, fun Q hQ => ?_, fun Q hQ => ?_⟩
    · unfold wp_St_then wp_St_then_b27
      refine C_isPost1 hP rfl hi ?_
      rw [if_neg (by decide)]
      refine C_isTicks1 hj ?_
      rw [if_neg (by decide), if_neg z0, if_neg z1]; exact hQ
    · unfold wp_Mo_then wp_Mo_then_b28
      refine R_isPost1 hP rfl hi ?_
      rw [if_neg (by decide)]
      refine R_ticks1 hj ?_
      rw [if_neg (by decide)]
      refine R_in0 (Or.inr (Int32.not_le.mp z1)) ?_
      rw [if_pos rfl]; exact hQ
theorem S_lullLoop {N : Nat} (hN2 : N ≤ 200) : ∀ (c i m : Nat) (σ ρ : sx_M) (a b : Int32), i + c = N → pn_T P L v m 1 σ ρ → pn_A P σ 1 →
    ∃ r σ2 ρ2, pn_F 1 σ σ2 ∧ pn_G ρ ρ2 ∧ (∀ Q : Int32 → sx_M → Prop, Q r σ2 → ∃ f, wp_St_lull_b31 Q f (nI N) a b (nI i) σ) ∧ (∀ Q : Int32 → sx_M → sx_L → Prop, Q r ρ2 θ → ∃ f, wp_Mo_lull_b24 Q f (nI N) a b (nI i) ρ θ)
  | 0, i, m, σ, ρ, a, b, hi, hT, hA => by
    refine ⟨a, σ, ρ, pn_F.rf, pn_G.rf, fun Q hQ => ⟨1, ?_⟩, fun Q hQ => ⟨1, ?_⟩⟩
    · rw [wp_St_lull_b31, if_pos (nI_le (by omega) (by omega))]; exact hQ
    · rw [wp_Mo_lull_b24, if_pos (nI_le (by omega) (by omega))]; exact hQ
  | c + 1, i, m, σ, ρ, a, b, hi, hT, hA => by
    obtain ⟨m1, σ1, ρ1, T1, f1, g1, A1, wC1, wR1⟩ := S_tick (θ := θ) hT hA
    obtain ⟨q, hq⟩ : ∃ q : Int32, q = if (((σ1 16 1 0 2) + (σ1 16 1 0 3)) + (σ1 16 1 0 4)) = (((σ 16 1 0 2) + (σ 16 1 0 3)) + (σ 16 1 0 4)) then b + 1 else 0 := ⟨_, rfl⟩
    obtain ⟨r, σ2, ρ2, f2, g2, wC, wR⟩ := S_lullLoop hN2 c (i + 1) m1 σ1 ρ1 (if a < q then q else a) q (by omega) T1 A1
    refine ⟨r, σ2, ρ2, f1.tr f2, g1.tr g2, fun Q hQ => ?_, fun Q hQ => ?_⟩
    · obtain ⟨f, hf⟩ := wC Q hQ
      refine ⟨f + 1, ?_⟩
      rw [wp_St_lull_b31, if_neg (nI_ge (by omega) (by omega))]
      unfold wp_Ne_messagesPut
      refine wC1 _ ?_
      unfold wp_St_lull_b72
      rw [nI_1]
      by_cases z : (((σ1 16 1 0 2) + (σ1 16 1 0 3)) + (σ1 16 1 0 4)) = (((σ 16 1 0 2) + (σ 16 1 0 3)) + (σ 16 1 0 4))
      · rw [if_pos z] at hq ⊢; rw [← hq]; exact hf
      · rw [if_neg z] at hq ⊢; rw [← hq]; exact hf
    · obtain ⟨f, hf⟩ := wR Q hQ
      have hf2 : wp_Mo_lull_b56 (wp_Mo_lull_b24 Q f) Q (nI N) a (nI i) q ρ1 θ := by
        unfold wp_Mo_lull_b56 wp_Mo_lull_b64
        rw [nI_1]
        by_cases z : q ≤ a
        · rw [if_pos z]; rw [if_neg (Int32.not_lt.mpr z)] at hf; exact hf
        · rw [if_neg z]; rw [if_pos (Int32.not_le.mp z)] at hf; exact hf
      refine ⟨f + 1, ?_⟩
      rw [wp_Mo_lull_b24, if_neg (nI_ge (by omega) (by omega))]
      refine R_said hT.2.2.1 (wR1 _ (R_said T1.2.2.1 ?_))
      by_cases z : (((σ1 16 1 0 2) + (σ1 16 1 0 3)) + (σ1 16 1 0 4)) = (((σ 16 1 0 2) + (σ 16 1 0 3)) + (σ 16 1 0 4))
      · rw [if_pos z] at hq ⊢; rw [← hq]; exact hf2
      · rw [if_neg z] at hq ⊢; rw [← hq]; exact hf2
/-- promise 32 -/
theorem M_lull (h : pn_I σ ρ θ) (x : Int32) : pn_ok (wp_St_lull x σ) (wp_Mo_lull x ρ θ) := by
  obtain ⟨P, L, v, m, hP, hN, hA, hW⟩ := id h
  rcases tk_ix x with c | ⟨j, hj, rfl⟩
  · refine ⟨-1, σ, ρ, θ, h, fun Q hQ => ?_, fun Q hQ => ?_⟩
    · unfold wp_St_lull wp_St_lull_b11
      refine C_isTicks0 c ?_
      rw [if_pos rfl]; exact hQ
    · unfold wp_Mo_lull
      refine R_in0 (c.imp (fun z => Int32.lt_trans z (by decide)) id) ?_
      rw [if_pos rfl]; exact hQ
  by_cases j0 : j = 0
  · subst j0
    refine ⟨-1, σ, ρ, θ, h, fun Q hQ => ?_, fun Q hQ => ?_⟩
    · unfold wp_St_lull wp_St_lull_b11
      refine C_isTicks1 hj ?_
      rw [if_neg (by decide), if_pos (show nI 0 = 0 from rfl)]; exact hQ
    · unfold wp_Mo_lull
      refine R_in0 (Or.inl (by decide)) ?_
      rw [if_pos rfl]; exact hQ
  · obtain ⟨ρ1, T1, q1, w1⟩ := R_copies hP hN hW
    obtain ⟨σ1, P1, N1, A1, cf, tt, wc⟩ := S_try T1.2.1 T1.2.2.1 hA
    have T2 : pn_T P L v m 1 σ1 ρ1 := ⟨by decide, P1, N1, by rw [cf 31 1 0 (by omega), q1.2.2]; exact hW.2.2.2.1.2.1⟩
    obtain ⟨r, σ2, ρ2, f2, g2, wC, wR⟩ := S_lullLoop (θ := θ) hj j 0 m σ1 ρ1 0 0 (by omega) T2 A1
    have qc : pn_qc σ σ2 := fun k n p hk => by rw [f2.1 k n p (by omega), cf k n p (by omega)]
    refine ⟨r, σ2, ρ2, θ, h.look qc (q1.yr g2.yr (by rw [g2 50 0 0 (by decide)]; exact q1.2.2)), fun Q hQ => ?_, fun Q hQ => ?_⟩
    · unfold wp_St_lull
      refine C_isTicks1 hj ?_
      rw [if_neg (by decide), if_neg (nI_ne0 (by omega) (by omega))]
      exact wc _ (wC Q hQ)
    · unfold wp_Mo_lull
      refine R_in1 (show ¬ nI j < 1 from nI_nlt (b := 1) (by omega) (by omega)) (show ¬ 200 < nI j from nI_nlt (a := 200) hj (by decide)) ?_
      rw [if_neg (by decide)]
      exact w1 _ (wR Q hQ)
theorem S_soonLoop : ∀ (c i m : Nat) (σ ρ : sx_M), i + c = 201 → pn_T P L v m 1 σ ρ → pn_A P σ 1 → (∀ j, j < P → σ 33 0 0 j = nI (d j)) → tD P L σ 1 (-1) d →
    ∃ r σ2 ρ2, pn_F 1 σ σ2 ∧ pn_yr ρ ρ2 ∧ ρ2 50 0 0 31 = ρ 50 0 0 31 ∧ (∀ Q : Int32 → sx_M → Prop, Q r σ2 → ∃ f, wp_St_soon_b25 Q f (nI i) σ) ∧ (∀ Q : Int32 → sx_M → sx_L → Prop, Q r ρ2 θ → ∃ f, wp_Mo_soon_b6 Q f (nI i) ρ θ)
  | 0, i, m, σ, ρ, hi, hT, hA, hC, hD => by
    have : i = 201 := by omega
    subst this
    refine ⟨-2, σ, ρ, pn_F.rf, pn_yr.rf, rfl, fun Q hQ => ⟨1, ?_⟩, fun Q hQ => ⟨1, ?_⟩⟩
    · rw [wp_St_soon_b25, if_pos (by decide)]; exact hQ
    · rw [wp_Mo_soon_b6, if_pos (by decide)]; exact hQ
  | c + 1, i, m, σ, ρ, hi, hT, hA, hC, hD => by
    have ni : ¬ 200 < nI i := nI_nlt (a := 200) (by omega) (by decide)
    obtain ⟨r, ρ1, zr, F1, rC, rR⟩ := S_isRight (θ := θ) hT.2.1 hT.2.2.1 hC hD
    have T1 : pn_T P L v m 1 σ ρ1 := ⟨hT.1, hT.2.1.mF F1, hT.2.2.1.mF F1, by rw [F1 50 0 0 (by decide)]; exact hT.2.2.2⟩
    rcases zr with zr | zr
    · subst zr
      obtain ⟨m2, σ2, ρ2, T2, f2, g2, A2, wC2, wR2⟩ := S_tick (θ := θ) T1 hA
      obtain ⟨r, σ3, ρ3, f3, y3, z3, wC, wR⟩ := S_soonLoop c (i + 1) m2 σ2 ρ2 (by omega) T2 A2 (fun j hj => by rw [f2.1 33 0 0 (by omega)]; exact hC j hj) (hD.mv hT.2.1 (fun k n p h1 h2 => f2.1 k n p (by omega)) (fun q l hq _ => by rw [f2.2.1 q 0 hq]) (fun p _ => f2.2.2 p))
      refine ⟨r, σ3, ρ3, f2.tr f3, (F1.yr.tr g2.yr).tr y3, by rw [z3, g2 50 0 0 (by decide), F1 50 0 0 (by decide)], fun Q hQ => ?_, fun Q hQ => ?_⟩
      · obtain ⟨f, hf⟩ := wC Q hQ
        refine ⟨f + 1, ?_⟩
        rw [wp_St_soon_b25, if_neg ni]
        refine rC _ ?_
        rw [if_pos rfl, nI_1]
        exact wC2 _ hf
      · obtain ⟨f, hf⟩ := wR Q hQ
        refine ⟨f + 1, ?_⟩
        rw [wp_Mo_soon_b6, if_neg ni]
        refine rR _ ?_
        rw [if_pos rfl, nI_1]
        exact wR2 _ hf
    · subst zr
      refine ⟨nI i, σ, ρ1, pn_F.rf, F1.yr, by rw [F1 50 0 0 (by decide)], fun Q hQ => ⟨1, ?_⟩, fun Q hQ => ⟨1, ?_⟩⟩
      · rw [wp_St_soon_b25, if_neg ni]
        refine rC _ ?_
        rw [if_neg (by decide)]; exact hQ
      · rw [wp_Mo_soon_b6, if_neg ni]
        refine rR _ ?_
        rw [if_neg (by decide)]; exact hQ
/-- promise 25 -/
theorem M_soon (h : pn_I σ ρ θ) : pn_ok (wp_St_soon σ) (wp_Mo_soon ρ θ) := by
  obtain ⟨P, L, v, m, hP, hN, hA, hW⟩ := id h
  obtain ⟨ρ1, T1, q1, w1⟩ := R_copies hP hN hW
  obtain ⟨σ1, P1, N1, A1, cf, tt, wc⟩ := S_try T1.2.1 T1.2.2.1 hA
  obtain ⟨-, d, -, -, D1, -⟩ := R_finds (θ := θ) P1 N1 (-1)
  obtain ⟨σ2, G2, E2, wC2⟩ := C_reckon P1 N1 D1
  have T2 : pn_T P L v m 1 σ2 ρ1 := ⟨by decide, P1.mG G2, N1.mG G2, by rw [G2 31 1 0 (by decide), cf 31 1 0 (by omega), q1.2.2]; exact hW.2.2.2.1.2.1⟩
  have A2 : pn_A P σ2 1 := A1.mw8 (fun k p h1 h2 => G2 k 1 p (by omega)) (fun k n p h1 h2 => G2 k n p (by omega))
  obtain ⟨r, σ3, ρ3, f3, y3, z3, wC, wR⟩ := S_soonLoop (θ := θ) 201 0 m σ2 ρ1 (by omega) T2 A2 E2 (D1.mG P1 G2)
  have qc : pn_qc σ σ3 := fun k n p hk => by rw [f3.1 k n p (by omega), G2 k n p (by omega), cf k n p (by omega)]
  refine ⟨r, σ3, ρ3, θ, h.look qc (q1.yr y3 (z3.trans q1.2.2)), fun Q hQ => ?_, fun Q hQ => ?_⟩
  · unfold wp_St_soon
    exact wc _ (wC2 _ (wC Q hQ))
  · unfold wp_Mo_soon
    exact w1 _ (wR Q hQ)
theorem S_yearLoop {j s : Nat} (hj : j ≤ 200) (hs : s ≤ 10) : ∀ (c i : Nat) (σ ρ : sx_M) (a : Int32), i + c = s → pn_P P L v σ ρ → pn_N P L m σ 0 ρ 67 0 → pn_A P σ 0 → σ 31 1 0 3 = 0 → (∀ j, j < P → σ 33 0 0 j = nI (d j)) → tD P L σ 0 (-1) d →
    ∃ r σ2 ρ2, pn_qc σ σ2 ∧ pn_qr ρ ρ2 ∧ (∀ Q : Int32 → sx_M → Prop, Q r σ2 → ∃ f, wp_St_year_b37 Q f (nI j) (nI s) a (nI i) σ) ∧ (∀ Q : Int32 → sx_M → sx_L → Prop, Q r ρ2 θ → ∃ f, wp_Mo_year_b28 Q f (nI j) (nI s) a (nI i) ρ θ)
  | 0, i, σ, ρ, a, hi, hP, hN, hA, h31, hC, hD => by
    refine ⟨a, σ, sx_u ρ 50 0 0 31 0, pn_qc.rf, ⟨fun k hk => sx_u_row _ _ _ _ _ _ (by omega), fun j hj => by rw [sx_u_at, if_neg (by omega)], by rw [sx_u_at]; simp⟩, fun Q hQ => ⟨1, ?_⟩, fun Q hQ => ⟨1, ?_⟩⟩
    · rw [wp_St_year_b37, if_pos (nI_le (by omega) (by omega))]; exact hQ
    · rw [wp_Mo_year_b28, if_pos (nI_le (by omega) (by omega))]
      intro _ q; subst q; exact hQ
  | c + 1, i, σ, ρ, a, hi, hP, hN, hA, h31, hC, hD => by
    obtain ⟨ρ1, P1, N1, y1, z1, w1⟩ := R_copies2 (θ := θ) hP hN
    obtain ⟨ρ2, e2⟩ : ∃ y, y = sx_u ρ1 50 0 0 31 (nI i) := ⟨_, rfl⟩
    have y2 : pn_yr ρ1 ρ2 := ⟨fun k hk => by rw [e2, sx_u_row _ _ _ _ _ _ (by omega)], fun j hj => by rw [e2, sx_u_at, if_neg (by omega)]⟩
    have N2 : pn_N P L m σ 0 ρ2 68 0 := N1.mv (fun _ _ _ _ => rfl) (by rw [e2, sx_u_row _ _ _ _ _ _ (by decide)])
    obtain ⟨m3, σ3, ρ3, P3, N3, qc, g3, tt, e33, wC3, wR3⟩ := S_dream (θ := θ) (P1.yr y2) N2 hA h31 (x := nI i) (by rw [e2, sx_u_at]; simp) hj
    have C3 : ∀ j, j < P → σ3 33 0 0 j = nI (d j) := fun j hj => by rw [e33]; exact hC j hj
    have f8 : ∀ k n p, 8 ≤ k → k < 16 → σ3 k n p = σ k n p := fun k n p h1 h2 => qc k n p (by omega)
    obtain ⟨r1, ρ4, zr, F4, rC, rR⟩ := S_isRight (θ := θ) P3 N3 C3 (hD.tt hP f8 tt)
    have y4 : pn_yr ρ ρ4 := ((y1.tr y2).tr g3.yr).tr F4.yr
    obtain ⟨r, σ5, ρ5, q5, s5, wC, wR⟩ := S_yearLoop hj hs c (i + 1) σ3 ρ4 (a + r1) (by omega) (P3.mF F4) (hN.mv (fun k p _ _ => qc k 0 p (by omega)) (y4.1 67 (by decide))) (hA.look qc) (by rw [qc 31 1 0 (by omega)]; exact h31) C3 (hD.mv hP f8 (fun q l hq _ => by rw [qc q 0 0 (by omega)]) (fun p _ => by rw [qc 27 0 p (by omega)]))
    refine ⟨r, σ5, ρ5, qc.tr q5, ⟨fun k hk => (s5.1 k hk).trans (y4.1 k (by omega)), fun j hj => (s5.2.1 j hj).trans (y4.2 j (by omega)), s5.2.2⟩, fun Q hQ => ?_, fun Q hQ => ?_⟩
    · obtain ⟨f, hf⟩ := wC Q hQ
      refine ⟨f + 1, ?_⟩
      rw [wp_St_year_b37, if_neg (nI_ge (by omega) (by omega))]
      refine wC3 _ (rC _ ?_)
      unfold wp_St_year_b70
      rw [nI_1]
      rcases zr with z | z
      · subst z; rw [if_pos rfl]; exact hf
      · subst z; rw [if_neg (by decide)]; exact hf
    · obtain ⟨f, hf⟩ := wR Q hQ
      refine ⟨f + 1, ?_⟩
      rw [wp_Mo_year_b28, if_neg (nI_ge (by omega) (by omega))]
      refine w1 _ (fun ρ' q => ?_)
      rw [q, ← e2]
      refine wR3 _ (rR _ ?_)
      unfold wp_Mo_year_b59
      rw [nI_1]
      rcases zr with z | z
      · subst z; rw [if_pos rfl]; rw [Int32.add_zero] at hf; exact hf
      · subst z; rw [if_neg (by decide)]; exact hf
/-- promise 35 -/
theorem M_year (h : pn_I σ ρ θ) (x y : Int32) : pn_ok (wp_St_year x y σ) (wp_Mo_year x y ρ θ) := by
  obtain ⟨P, L, v, m, hP, hN, hA, hW⟩ := id h
  rcases tk_ix x with c | ⟨j, hj, rfl⟩
  · refine ⟨-1, σ, ρ, θ, h, fun Q hQ => ?_, fun Q hQ => ?_⟩
    · unfold wp_St_year wp_St_year_b18
      refine C_isTicks0 c ?_
      rw [if_pos rfl]; exact hQ
    · unfold wp_Mo_year wp_Mo_year_b21
      refine R_in0 c ?_
      rw [if_pos rfl]; exact hQ
  by_cases y1 : y < 1
  · refine ⟨-1, σ, ρ, θ, h, fun Q hQ => ?_, fun Q hQ => ?_⟩
    · unfold wp_St_year wp_St_year_b18
      refine C_isTicks1 hj ?_
      rw [if_neg (by decide), if_pos y1]; exact hQ
    · unfold wp_Mo_year wp_Mo_year_b21
      refine R_ticks1 hj ?_
      rw [if_neg (by decide)]
      refine R_in0 (Or.inl y1) ?_
      rw [if_pos rfl]; exact hQ
  by_cases y2 : y ≤ 10
  · obtain ⟨s, hs, es⟩ : ∃ s, s ≤ 10 ∧ y = nI s := by
      rcases pk_ix y (n := 11) (by decide) with c | c | ⟨s, hs, es⟩
      · exact absurd (Int32.lt_trans c (by decide)) y1
      · exact absurd (Int32.le_trans c y2) (by decide)
      · exact ⟨s, by omega, es⟩
    obtain ⟨ρ1, T1, q1, -⟩ := R_copies hP hN hW
    obtain ⟨-, d, -, -, D1, -⟩ := R_finds (θ := θ) T1.2.1 T1.2.2.1 (-1)
    obtain ⟨σ2, G2, E2, wC2⟩ := C_reckon hP hN D1
    obtain ⟨r, σ3, ρ3, q3, s3, wC, wR⟩ := S_yearLoop (θ := θ) hj hs s 0 σ2 ρ 0 (by omega) (hP.mG G2) (hN.mG G2) (hA.look G2.qc) (by rw [G2 31 1 0 (by decide)]; exact hW.2.2.2.1.2.1) E2 (D1.mG hP G2)
    refine ⟨r, σ3, ρ3, θ, h.look (G2.qc.tr q3) s3, fun Q hQ => ?_, fun Q hQ => ?_⟩
    · unfold wp_St_year
      refine C_isTicks1 hj ?_
      rw [if_neg (by decide), if_neg y1, if_pos y2]
      refine wC2 _ ?_
      rw [es]; exact wC Q hQ
    · unfold wp_Mo_year
      refine R_ticks1 hj ?_
      rw [if_neg (by decide)]
      refine R_in1 y1 (Int32.not_lt.mpr y2) ?_
      rw [if_neg (by decide), es]; exact wR Q hQ
  · refine ⟨-1, σ, ρ, θ, h, fun Q hQ => ?_, fun Q hQ => ?_⟩
    · unfold wp_St_year wp_St_year_b18
      refine C_isTicks1 hj ?_
      rw [if_neg (by decide), if_neg y1, if_neg y2]; exact hQ
    · unfold wp_Mo_year wp_Mo_year_b21
      refine R_ticks1 hj ?_
      rw [if_neg (by decide)]
      refine R_in0 (Or.inr (Int32.not_le.mp y2)) ?_
      rw [if_pos rfl]; exact hQ
end DREAM
