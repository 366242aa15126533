section ACTS2
variable {P L v m n k b : Nat} {σ σ2 ρ ρ2 : sx_M} {θ : sx_L}
/-- promise 10 -/
theorem M_repair (h : pn_I σ ρ θ) : pn_ok (wp_St_repair σ) (wp_Mo_repair ρ θ) := by
  obtain ⟨P, L, v, m, hP, hN, hA, hW⟩ := id h
  have h7 := hP.1.1
  have c0 : (0 : Int32).toNatClampNeg = 0 := rfl
  have i0 : vp_in 0 7 := in_I (n := 0) rfl (by decide) (by decide)
  have i26 : vp_in 26 643 := in_I (n := 26) rfl (by decide) (by decide)
  have c26 : (26 : Int32).toNatClampNeg = 26 := rfl
  by_cases hp0 : P = 0
  · refine ⟨-1, σ, ρ, θ, h, fun Q hQ => ?_, fun Q hQ => ?_⟩
    · unfold wp_St_repair wp_St_repair_b27
      rw [hP.2.1.1, if_pos (show nI P = 0 by rw [hp0]; rfl)]; exact hQ
    · unfold wp_Mo_repair wp_Mo_repair_b24
      rw [hP.rP, if_pos (show nI P = 0 by rw [hp0]; rfl)]; exact ⟨hP.live.1, hQ⟩
  · have nP : ¬ nI P = 0 := nI_ne0 (by omega) (by omega)
    have v0 : ρ 67 0 0 26 = σ 27 0 0 1 := hN.2.2.2.2.2.2.1 0 (by omega) 0 (by decide)
    obtain ⟨u, hu, eu⟩ := (hN.2.2.2.2.2.2.2.2.2.2.1 0 (by omega)).1
    by_cases c1 : u = 99
    · refine ⟨-1, σ, ρ, θ, h, fun Q hQ => ?_, fun Q hQ => ?_⟩
      · unfold wp_St_repair wp_St_repair_b27
        rw [hP.2.1.1, if_neg nP, c0, eu, if_neg (show ¬ nI u < 99 from nI_nlt (b := 99) (by omega) (by omega))]; exact ⟨i0, hQ⟩
      · unfold wp_Mo_repair wp_Mo_repair_b24
        rw [hP.rP, if_neg nP, c26, v0, eu, if_pos (show nI u = 99 by rw [c1]; rfl)]; exact ⟨hP.live.1, i26, hQ⟩
    · obtain ⟨σ1, ρ1, T1, A1, W1, s1, k1, wC1, wR1⟩ := S_mark hP hN hA hW
      have no : ∀ {A : Prop} {i j : Nat}, i ≠ j → i = j → A := fun h1 h2 => absurd h2 h1
      have e1 : σ1 27 0 0 1 = nI u := by rw [s1 27 0 (by decide) (by decide)]; exact eu
      have T2 := T1.setP (p0 := 0) (w0 := 0) (x := nI (u + 1)) (by omega) (by decide) (fun _ => ⟨u + 1, by omega, rfl⟩) (no (by decide)) (no (by decide)) (no (by decide)) (no (by decide))
      generalize es : sx_u σ1 27 0 0 (0 + 1) (nI (u + 1)) = σ2 at T2
      generalize er : sx_u ρ1 68 0 0 (26 + 10 * 0 + 0) (nI (u + 1)) = ρ2 at T2
      have f2 : pn_f 0 σ1 σ2 := by rw [← es]; exact pn_f.rf.u ⟨by omega, rfl⟩
      have g2 : pn_g ρ1 ρ2 := by rw [← er]; exact pn_g.rf.u rfl
      have A2 : pn_A P σ2 0 := by
        intro p p0 pP pX pon pr
        have r27 : σ2 27 0 p = σ1 27 0 p := by rw [← es, sx_u_row _ _ _ _ _ _ (by omega)]
        rw [r27] at pon pr
        exact pn_zz_c (fun k => pn_of_c (fun k n p hk => f2.1 k n p (by omega)) (fun q p' hq => by rw [← es, sx_u_row _ _ _ _ _ _ (by omega)]) (fun p' => f2.2.2 p') p k) (fun j _ _ => by rw [r27]) (fun j => by rw [f2.1 14 0 0 (by omega)]) (A1 p p0 pP pX pon pr)
      obtain ⟨σ3, ρ3, T3, f3, g3, kk3, wC3, wR3⟩ := S_beginAnew (θ := θ) T2 (p := 0) (by omega)
      have A3 : pn_A P σ3 0 := A2.j f3 kk3.j
      obtain ⟨ρ4, I4, -, N4, wR4⟩ := R_keepsRow T3 A3 (W1.mvF (f2.tr f3).F.1 (g2.tr g3).G)
      have e3 : σ3 27 0 0 1 = nI (u + 1) := by rw [kk3.2.1 0 1 (Or.inr (by decide)), ← es, sx_u_at]; simp
      have r1 : ρ1 68 0 0 (26 + 10 * 0 + 0) = nI u := by rw [T1.fld (p := 0) (w := 0) (by omega) (by decide)]; exact e1
      have r4 : ρ4 68 0 0 (26 + 10 * 0 + 0) = nI (u + 1) := by
        have := N4.2.2.2.2.2.2.1 0 (by omega) 0 (by decide)
        rw [Nat.zero_add] at this
        rw [this]; exact e3
      refine ⟨nI (u + 1), σ3, ρ4, θ, I4, fun Q hQ => ?_, fun Q hQ => ?_⟩
      · unfold wp_St_repair
        rw [hP.2.1.1, if_neg nP, c0, eu, if_pos (show nI u < 99 from nI_lt (b := 99) (by omega) (by decide))]
        refine ⟨i0, wC1 _ ⟨i0, fun _ q => ?_⟩⟩
        rw [e1, nI_1] at q
        have q2 : _ = σ2 := q.trans es
        subst q2
        refine wC3 _ ⟨i0, ?_⟩
        rw [e3]; exact hQ
      · unfold wp_Mo_repair
        rw [hP.rP, if_neg nP, c26, v0, eu, if_neg (show ¬ nI u = 99 from fun z => c1 ((nI_eq (b := 99) (by omega) (by decide)).mp z))]
        refine ⟨hP.live.1, i26, wR1 _ ?_⟩
        refine R_of (p := 0) (i := 0) rfl rfl (by decide) (by decide) ?_
        rw [r1, nI_1]
        refine R_keeps (p := 0) (i := 0) rfl rfl (by decide) (by decide) ?_
        rw [er]
        refine wR3 _ (wR4 _ ?_)
        refine R_of (p := 0) (i := 0) rfl rfl (by decide) (by decide) ?_
        rw [r4]; exact hQ
/-- promise 36 -/
theorem M_hold (h : pn_I σ ρ θ) (x : Int32) : pn_ok (wp_St_hold x σ) (wp_Mo_hold x ρ θ) := by
  obtain ⟨P, L, v, m, hP, hN, hA, hW⟩ := id h
  obtain ⟨hm, hmr, hmc⟩ := hN.2.2.1
  have none_ : (x < 0 ∨ nI 3 ≤ x) → pn_ok (wp_St_hold x σ) (wp_Mo_hold x ρ θ) := fun c => by
    refine ⟨0, σ, ρ, θ, h, fun Q hQ => ?_, fun Q hQ => ?_⟩
    · unfold wp_St_hold wp_St_hold_b9
      by_cases c0 : x < 0
      · rw [if_pos c0]; exact hQ
      · rw [if_neg c0, if_neg (show ¬ x < 3 from Int32.not_lt.mpr (c.resolve_left c0))]; exact hQ
    · unfold wp_Mo_hold
      refine R_in0 ?_ ?_
      · by_cases c0 : x < 0
        · exact Or.inl c0
        · exact Or.inr (le_lt (N := 2) (by decide) c0 (c.resolve_left c0))
      · rw [if_pos rfl]; exact hQ
  rcases pk_ix x (n := 3) (by omega) with c | c | ⟨s, hs, rfl⟩
  · exact none_ (Or.inl c)
  · exact none_ (Or.inr c)
  · have cs : (nI s).toNatClampNeg = s := nI_clamp (by omega)
    have is3 : vp_in (nI s) 3 := vp_in_nI hs (by decide)
    obtain ⟨⟨⟨t, t1, t2, t3, t4⟩, t5⟩, hU, hH, ⟨s1, s2, s3⟩, ky⟩ := id hW
    obtain ⟨σ1, cn, cf, w1⟩ := C_ncopy hP (n := 22 + s) (n1 := 0) (by omega) hm hmc (fun p hp => hN.2.2.2.2.1.1 p hp)
    obtain ⟨σ2, e2⟩ : ∃ z, z = sx_u σ1 39 0 0 s 1 := ⟨_, rfl⟩
    have nar : vp_nar .boolean 1 = 1 := by decide
    have o2 : ∀ q n p, ¬ (q = 39 ∧ n = 0 ∧ p = 0) → σ2 q n p = σ1 q n p := fun q n p h => by rw [e2, sx_u_row _ _ _ _ _ _ h]
    have of2 : ∀ k n' p, ¬ ((16 ≤ k ∧ k ≤ 30) ∧ n' = 22 + s) → ¬ (k = 39 ∧ n' = 0 ∧ p = 0) → σ2 k n' p = σ k n' p := fun k n' p h1 h2 => by rw [o2 k n' p h2]; exact cf k n' p h1
    obtain ⟨ρ1, a1, a2, a3, wr⟩ := R_now_held (ρ := ρ) (θ := θ) (bf := 0) (bt := 643 * s) (m := m) (x := 0) (y := nI (643 * s)) rfl rfl hm hmr (by decide) (by omega)
    obtain ⟨ρ2, r2⟩ : ∃ z, z = sx_u ρ1 73 0 0 s 1 := ⟨_, rfl⟩
    have p2 : ∀ q n p, ¬ (q = 73 ∧ n = 0 ∧ p = 0) → ρ2 q n p = ρ1 q n p := fun q n p h => by rw [r2, sx_u_row _ _ _ _ _ _ h]
    have g2 : ∀ k, ¬ k = 72 → ¬ k = 73 → ρ2 k 0 0 = ρ k 0 0 := fun k h1 h2 => by rw [p2 k 0 0 (by omega), a1 k 0 0 (by omega)]
    have h16 : ∀ k n p, k < 16 → 0 < k → σ2 k n p = σ k n p := fun k n p h1 h2 => of2 k n p (by omega) (by omega)
    have P2 : pn_P P L v σ2 ρ2 := hP.mvA (fun k n p h1 h2 => h16 k n p h2 (by omega)) (by rw [g2 50 (by decide) (by decide)]) (fun k h1 h2 => g2 k (by omega) (by omega))
    have s0 : pn_s 0 σ σ2 := fun k p h1 h2 => of2 k 0 p (by omega) (by omega)
    have cn2 : pn_cn P m (22 + s) 0 σ σ2 := by
      obtain ⟨a, b, c, d, e, g⟩ := cn
      exact ⟨fun f h1 h2 => by rw [o2 16 _ _ (by omega)]; exact a f h1 h2, fun q l hq hl => by rw [o2 q _ _ (by omega)]; exact b q l hq hl, fun p j hp hj => by rw [o2 27 _ _ (by omega)]; exact c p j hp hj, fun q p j hq hp hj => by rw [o2 q _ _ (by omega)]; exact d q p j hq hp hj, by rw [o2 20 _ _ (by omega)]; exact e, fun q i hq hi => by rw [o2 q _ _ (by omega)]; exact g q i hq hi⟩
    have H2 : pn_H P L σ2 ρ2 := by
      intro i hi
      by_cases ci : i = s
      · subst ci
        have z1 : σ2 39 0 0 i = 1 := by rw [e2, sx_u_at]; simp
        have z2 : ρ2 73 0 0 i = 1 := by rw [r2, sx_u_at]; simp
        refine ⟨by rw [z1]; exact Or.inr rfl, by rw [z1, z2], fun _ => ⟨m, ?_, ?_⟩⟩
        · refine (hN.cn cn2).cR (fun j hj => ?_)
          rw [p2 72 0 0 (by decide), a2 j hj]
        · exact pn_Z.cC hP hN hA (fun k n p h1 h2 => h16 k n p h2 (by omega)) cn2.2.1 cn2.2.2.1 (fun p j hp hj => cn2.2.2.2.1 28 p j (by decide) hp hj)
      · obtain ⟨b1, b2, b3⟩ := hH i hi
        have z1 : σ2 39 0 0 i = σ 39 0 0 i := by rw [e2, sx_u_at, if_neg (by omega), cf 39 0 0 (by omega)]
        have z2 : ρ2 73 0 0 i = ρ 73 0 0 i := by rw [r2, sx_u_at, if_neg (by omega), a1 73 0 0 (by decide)]
        rw [z1, z2]
        refine ⟨b1, b2, fun z => ?_⟩
        obtain ⟨mm, d1, d2⟩ := b3 z
        have hs2 : pn_s (22 + i) σ σ2 := fun k p h1 h2 => of2 k (22 + i) p (by omega) (by omega)
        have mb := d1.2.2.1.1
        refine ⟨mm, (d1.mv hs2 rfl).cR (fun j hj => ?_), d2.mv8 hs2 h16⟩
        rw [p2 72 0 0 (by decide), a3 _ (by omega)]
    have W2 : pn_W P L σ2 ρ2 θ := by
      refine ⟨⟨⟨t, t1, ?_, ?_, fun i hi => ?_⟩, ?_⟩, ?_, H2, ⟨?_, ?_, ?_⟩, ky⟩
      · rw [h16 1 0 0 (by decide) (by decide)]; exact t2
      · rw [g2 50 (by decide) (by decide)]; exact t3
      · rw [h16 2 0 0 (by decide) (by decide), g2 51 (by decide) (by decide)]; exact t4 i hi
      · rw [h16 3 0 0 (by decide) (by decide), g2 50 (by decide) (by decide)]; exact t5
      · exact hU.mv (fun i hi k p h1 h2 => of2 k (2 + i) p (by omega) (by omega)) h16 (fun j _ => by rw [of2 0 0 0 (by omega) (by omega)]) (fun j _ => by rw [g2 50 (by decide) (by decide)]) (g2 71 (by decide) (by decide))
      · rw [of2 31 0 0 (by omega) (by omega)]; exact s1
      · rw [of2 31 1 0 (by omega) (by omega)]; exact s2
      · rw [g2 50 (by decide) (by decide)]; exact s3
    refine ⟨1, σ2, ρ2, θ, ⟨P, L, v, m, P2, hN.mv s0 (g2 67 (by decide) (by decide)), hA.mv8 s0 h16, W2⟩, fun Q hQ => ?_, fun Q hQ => ?_⟩
    · unfold wp_St_hold
      rw [if_neg (nI_pos (by omega)), if_pos (show nI s < 3 from nI_lt (b := 3) hs (by decide)), cs]
      refine ⟨is3, w1 _ ⟨is3, fun _ q => ?_⟩⟩
      rw [nar, ← e2] at q; subst q; exact hQ
    · unfold wp_Mo_hold
      refine R_in1 (nI_pos (by omega)) (show ¬ 2 < nI s from nI_nlt (a := 2) (by omega) (by decide)) ?_
      rw [if_neg (by decide), show (643 : Int32) * nI s = nI (643 * s) from pk_mul 643 s, cs]
      refine wr _ ⟨is3, fun _ q => ?_⟩
      rw [nar, ← r2] at q; subst q; exact hQ
/-- another net becomes what stands -/
theorem S_back (hP : pn_P P L v σ ρ) {q b : Nat} (hq : ¬ q = 0) (hN : pn_N P L m σ q ρ k b) (hA : pn_A P σ q) : ∃ σ2, pn_cn P m 0 q σ σ2 ∧ pn_cf 0 σ σ2 ∧ pn_A P σ2 0 ∧ pn_N P L m σ2 0 ρ k b ∧ ∀ Q : sx_M → Prop, Q σ2 → wp_Ne_copyFrom 0 q σ Q := by
  obtain ⟨hm, hmr, hmc⟩ := hN.2.2.1
  obtain ⟨σ1, cn, cf, w1⟩ := C_ncopy hP (n := 0) (n1 := q) (fun z => hq z.symm) hm hmc (fun p hp => hN.2.2.2.2.1.1 p hp)
  exact ⟨σ1, cn, cf, hA.cn hP hN cf cn, hN.cn cn, w1⟩
/-- promise 37 -/
theorem M_restore (h : pn_I σ ρ θ) (x : Int32) : pn_ok (wp_St_restore x σ) (wp_Mo_restore x ρ θ) := by
  obtain ⟨P, L, v, m, hP, hN, hA, hW⟩ := id h
  have none_ : (x < 0 ∨ nI 3 ≤ x) → pn_ok (wp_St_restore x σ) (wp_Mo_restore x ρ θ) := fun c => by
    refine ⟨0, σ, ρ, θ, h, fun Q hQ => ?_, fun Q hQ => ?_⟩
    · unfold wp_St_restore wp_St_restore_b18
      by_cases c0 : x < 0
      · rw [if_pos c0]; exact hQ
      · rw [if_neg c0, if_pos (show 3 ≤ x from c.resolve_left c0)]; exact hQ
    · unfold wp_Mo_restore wp_Mo_restore_b18
      refine R_in0 ?_ ?_
      · by_cases c0 : x < 0
        · exact Or.inl c0
        · exact Or.inr (le_lt (N := 2) (by decide) c0 (c.resolve_left c0))
      · rw [if_pos rfl]; exact hQ
  rcases pk_ix x (n := 3) (by omega) with c | c | ⟨s, hs, rfl⟩
  · exact none_ (Or.inl c)
  · exact none_ (Or.inr c)
  · have cs : (nI s).toNatClampNeg = s := nI_clamp (by omega)
    have is3 : vp_in (nI s) 3 := vp_in_nI hs (by decide)
    have n3 : ¬ 3 ≤ nI s := nI_ge (b := 3) hs (by decide)
    have r1 : ¬ nI s < 0 := nI_pos (by omega)
    have r2 : ¬ 2 < nI s := nI_nlt (a := 2) (by omega) (by decide)
    obtain ⟨⟨⟨t, t1, t2, t3, t4⟩, t5⟩, hU, hH, ⟨s1, s2, s3⟩, ky⟩ := id hW
    obtain ⟨z1, z2, z3⟩ := hH s hs
    by_cases c1 : σ 39 0 0 s = 0
    · refine ⟨0, σ, ρ, θ, h, fun Q hQ => ?_, fun Q hQ => ?_⟩
      · unfold wp_St_restore wp_St_restore_b18
        rw [if_neg r1, if_neg n3, cs, if_pos c1]; exact ⟨is3, hQ⟩
      · unfold wp_Mo_restore wp_Mo_restore_b18
        refine R_in1 r1 r2 ?_
        rw [if_neg (by decide), cs, z2, if_pos c1]; exact ⟨is3, hQ⟩
    · obtain ⟨mm, d1, d2⟩ := z3 (z1.resolve_left c1)
      obtain ⟨hm, hmr, hmc⟩ := d1.2.2.1
      obtain ⟨σ1, cn, cf, A1, N1, w1⟩ := S_back hP (q := 22 + s) (by omega) d1 d2
      obtain ⟨σ2, e2⟩ : ∃ z, z = sx_u (sx_u σ1 0 0 0 10 0) 0 0 0 11 0 := ⟨_, rfl⟩
      have o2 : ∀ q n p, ¬ (q = 0 ∧ n = 0 ∧ p = 0) → σ2 q n p = σ1 q n p := fun q n p h => by rw [e2, sx_u_row _ _ _ _ _ _ h, sx_u_row _ _ _ _ _ _ h]
      obtain ⟨ρ1, a1, a2, a3, wr⟩ := R_held_now (ρ := ρ) (θ := θ) (bf := 643 * s) (bt := 0) (m := mm) (x := nI (643 * s)) (y := 0) rfl rfl hm hmr (by omega) (by decide)
      obtain ⟨ρ2, er⟩ : ∃ z, z = sx_u ρ1 50 0 0 37 0 := ⟨_, rfl⟩
      have p2 : ∀ q n p, ¬ (q = 50 ∧ n = 0 ∧ p = 0) → ρ2 q n p = ρ1 q n p := fun q n p h => by rw [er, sx_u_row _ _ _ _ _ _ h]
      have g2 : ∀ k, ¬ k = 67 → ¬ k = 50 → ρ2 k 0 0 = ρ k 0 0 := fun k h1 h2 => by rw [p2 k 0 0 (by omega), a1 k 0 0 (by omega)]
      have g5 : ∀ j, ¬ j = 37 → ρ2 50 0 0 j = ρ 50 0 0 j := fun j h => by rw [er, sx_u_at, if_neg (by omega), a1 50 0 0 (by decide)]
      have of2 : ∀ k n' p, ¬ ((16 ≤ k ∧ k ≤ 30) ∧ n' = 0) → ¬ (k = 0 ∧ n' = 0 ∧ p = 0) → σ2 k n' p = σ k n' p := fun k n' p h1 h2 => by rw [o2 k n' p h2]; exact cf k n' p h1
      have h16 : ∀ k n p, k < 16 → 0 < k → σ2 k n p = σ k n p := fun k n p h1 h2 => of2 k n p (by omega) (by omega)
      have P2 : pn_P P L v σ2 ρ2 := hP.mvA (fun k n p h1 h2 => h16 k n p h2 (by omega)) (g5 17 (by decide)) (fun k h1 h2 => g2 k (by omega) (by omega))
      have s12 : pn_s 0 σ1 σ2 := fun k p h1 h2 => o2 k 0 p (by omega)
      have N2 : pn_N P L mm σ2 0 ρ2 67 0 := by
        refine (N1.mv s12 (ρ2 := ρ) rfl).cR (fun j hj => ?_)
        rw [p2 67 0 0 (by decide)]; exact a2 j hj
      have W2 : pn_W P L σ2 ρ2 θ := by
        obtain ⟨u, pe, er1, u1, u2, u3, u4, u5, u6, u7, u8⟩ := hU
        refine ⟨⟨⟨t, t1, ?_, ?_, fun i hi => ?_⟩, ?_⟩, ⟨0, 0, er1, by omega, by omega, u3, ?_, ?_, ?_, ?_, fun j hj => absurd hj (Nat.not_lt_zero j)⟩, ?_, ⟨?_, ?_, ?_⟩, ky⟩
        · rw [h16 1 0 0 (by decide) (by decide)]; exact t2
        · rw [g5 2 (by decide)]; exact t3
        · rw [h16 2 0 0 (by decide) (by decide), g2 51 (by decide) (by decide)]; exact t4 i hi
        · rw [h16 3 0 0 (by decide) (by decide), g5 16 (by decide)]; exact t5
        · rw [e2, sx_u_at]; simp; rfl
        · rw [er, sx_u_at]; simp; rfl
        · rw [e2, sx_u_at, if_neg (by omega), sx_u_at]; simp; rfl
        · rw [g5 36 (by decide)]; exact u7
        · exact hH.mv (fun i hi k p h1 h2 => of2 k (22 + i) p (by omega) (by omega)) h16 (of2 39 0 0 (by omega) (by omega)) (g2 72 (by decide) (by decide)) (g2 73 (by decide) (by decide))
        · rw [of2 31 0 0 (by omega) (by omega)]; exact s1
        · rw [of2 31 1 0 (by omega) (by omega)]; exact s2
        · rw [g5 31 (by decide)]; exact s3
      refine ⟨1, σ2, ρ2, θ, ⟨P, L, v, mm, P2, N2, A1.mv8 s12 (fun k n p h1 h2 => o2 k n p (by omega)), W2⟩, fun Q hQ => ?_, fun Q hQ => ?_⟩
      · unfold wp_St_restore
        rw [if_neg r1, if_neg n3, cs, if_neg c1]
        refine ⟨is3, is3, w1 _ ?_⟩
        unfold wp_St_forgetPast
        intro _ q; subst q
        intro _ q; rw [← e2] at q; subst q; exact hQ
      · unfold wp_Mo_restore
        refine R_in1 r1 r2 ?_
        rw [if_neg (by decide), cs, z2, if_neg c1, show (643 : Int32) * nI s = nI (643 * s) from pk_mul 643 s]
        refine ⟨is3, wr _ (fun _ q => ?_)⟩
        rw [← er] at q; subst q; exact hQ
/-- promise 12 -/
theorem M_undo (h : pn_I σ ρ θ) : pn_ok (wp_St_undo σ) (wp_Mo_undo ρ θ) := by
  obtain ⟨P, L, v, m, hP, hN, hA, hW⟩ := id h
  obtain ⟨⟨⟨t, t1, t2, t3, t4⟩, t5⟩, ⟨u, pe, er, u1, u2, u3, u4, u5, u6, u7, u8⟩, hH, ⟨s1, s2, s3⟩, ky⟩ := id hW
  by_cases c0 : u = 0
  · refine ⟨0, σ, ρ, θ, h, fun Q hQ => ?_, fun Q hQ => ?_⟩
    · unfold wp_St_undo
      rw [u4, if_pos (show nI u = 0 by rw [c0]; rfl)]; exact hQ
    · unfold wp_Mo_undo
      rw [u5, if_pos (show nI u = 0 by rw [c0]; rfl)]; exact hQ
  · have nu : ¬ nI u = 0 := nI_ne0 (by omega) (by omega)
    obtain ⟨pe', hpe⟩ : ∃ x, x = (pe + 19) % 20 := ⟨_, rfl⟩
    have pe20 : pe' < 20 := by omega
    obtain ⟨i, hi⟩ : ∃ x, x = (er + (u - 1)) % 20 := ⟨_, rfl⟩
    have i20 : i < 20 := by omega
    obtain ⟨mm, d1, d2⟩ := u8 (u - 1) (by omega)
    rw [show (pe + 20 - u + (u - 1)) % 20 = pe' by omega, ← hi] at d1
    rw [show (pe + 20 - u + (u - 1)) % 20 = pe' by omega] at d2
    obtain ⟨hm, hmr, hmc⟩ := d1.2.2.1
    obtain ⟨σ1, e1⟩ : ∃ z, z = sx_u (sx_u σ 0 0 0 10 (nI pe')) 0 0 0 11 (nI (u - 1)) := ⟨_, rfl⟩
    have o1 : ∀ q n p, ¬ (q = 0 ∧ n = 0 ∧ p = 0) → σ1 q n p = σ q n p := fun q n p h => by rw [e1, sx_u_row _ _ _ _ _ _ h, sx_u_row _ _ _ _ _ _ h]
    have x10 : σ1 0 0 0 10 = nI pe' := by rw [e1, sx_u_at, if_neg (by omega), sx_u_at]; simp
    have x11 : σ1 0 0 0 11 = nI (u - 1) := by rw [e1, sx_u_at]; simp
    have sa : ∀ n, pn_s n σ σ1 := fun n k p h1 h2 => o1 k n p (by omega)
    have ka : ∀ k n p, k < 16 → 0 < k → σ1 k n p = σ k n p := fun k n p h1 h2 => o1 k n p (by omega)
    have P1 : pn_P P L v σ1 ρ := hP.mvA (fun k n p h1 h2 => ka k n p h2 (by omega)) rfl (fun _ _ _ => rfl)
    obtain ⟨σ2, cn, cf, A2, N2, w2⟩ := S_back P1 (q := 2 + pe') (by omega) (d1.mv (sa _) rfl) (d2.mv8 (sa _) ka)
    obtain ⟨ρ0, er0⟩ : ∃ z, z = sx_u ρ 50 0 0 37 (nI (u - 1)) := ⟨_, rfl⟩
    have p0 : ∀ q n p, ¬ (q = 50 ∧ n = 0 ∧ p = 0) → ρ0 q n p = ρ q n p := fun q n p h => by rw [er0, sx_u_row _ _ _ _ _ _ h]
    obtain ⟨ρ2, a1, a2, a3, wr⟩ := R_earlier_now (ρ := ρ0) (θ := θ) (bf := 643 * i) (bt := 0) (m := mm) (x := nI (643 * i)) (y := 0) rfl rfl hm (by rw [p0 71 0 0 (by decide)]; exact hmr) (by omega) (by decide)
    have g2 : ∀ k, ¬ k = 67 → ¬ k = 50 → ρ2 k 0 0 = ρ k 0 0 := fun k h1 h2 => by rw [a1 k 0 0 (by omega), p0 k 0 0 (by omega)]
    have g5 : ∀ j, ¬ j = 37 → ρ2 50 0 0 j = ρ 50 0 0 j := fun j h => by rw [a1 50 0 0 (by decide), er0, sx_u_at, if_neg (by omega)]
    have of2 : ∀ k n' p, ¬ ((16 ≤ k ∧ k ≤ 30) ∧ n' = 0) → ¬ (k = 0 ∧ n' = 0 ∧ p = 0) → σ2 k n' p = σ k n' p := fun k n' p h1 h2 => by rw [cf k n' p h1]; exact o1 k n' p h2
    have h16 : ∀ k n p, k < 16 → 0 < k → σ2 k n p = σ k n p := fun k n p h1 h2 => of2 k n p (by omega) (by omega)
    have P2 : pn_P P L v σ2 ρ2 := hP.mvA (fun k n p h1 h2 => h16 k n p h2 (by omega)) (g5 17 (by decide)) (fun k h1 h2 => g2 k (by omega) (by omega))
    have N3 : pn_N P L mm σ2 0 ρ2 67 0 := N2.cR (fun j hj => by rw [a2 j hj, p0 71 0 0 (by decide)])
    have W2 : pn_W P L σ2 ρ2 θ := by
      refine ⟨⟨⟨t, t1, ?_, ?_, fun i hi => ?_⟩, ?_⟩, ⟨u - 1, pe', er, by omega, pe20, u3, ?_, ?_, ?_, ?_, fun j hj => ?_⟩, ?_, ⟨?_, ?_, ?_⟩, ky⟩
      · rw [h16 1 0 0 (by decide) (by decide)]; exact t2
      · rw [g5 2 (by decide)]; exact t3
      · rw [h16 2 0 0 (by decide) (by decide), g2 51 (by decide) (by decide)]; exact t4 i hi
      · rw [h16 3 0 0 (by decide) (by decide), g5 16 (by decide)]; exact t5
      · rw [cf 0 0 0 (by omega)]; exact x11
      · rw [a1 50 0 0 (by decide), er0, sx_u_at]; simp
      · rw [cf 0 0 0 (by omega)]; exact x10
      · rw [g5 36 (by decide)]; exact u7
      · obtain ⟨m3, b1, b2⟩ := u8 j (by omega)
        have hx : (pe' + 20 - (u - 1) + j) % 20 = (pe + 20 - u + j) % 20 := by omega
        have hx2 : (pe + 20 - u + j) % 20 < 20 := Nat.mod_lt _ (by decide)
        rw [hx]
        have hs2 : pn_s (2 + (pe + 20 - u + j) % 20) σ σ2 := fun k p h1 h2 => of2 k _ p (by omega) (by omega)
        exact ⟨m3, b1.mv hs2 (g2 71 (by decide) (by decide)), b2.mv8 hs2 h16⟩
      · exact hH.mv (fun i hi k p h1 h2 => of2 k (22 + i) p (by omega) (by omega)) h16 (of2 39 0 0 (by omega) (by omega)) (g2 72 (by decide) (by decide)) (g2 73 (by decide) (by decide))
      · rw [of2 31 0 0 (by omega) (by omega)]; exact s1
      · rw [of2 31 1 0 (by omega) (by omega)]; exact s2
      · rw [g5 31 (by decide)]; exact s3
    refine ⟨1, σ2, ρ2, θ, ⟨P, L, v, mm, P2, N3, A2, W2⟩, fun Q hQ => ?_, fun Q hQ => ?_⟩
    · have fin : wp_St_undo_b28 Q (nI pe') σ := by
        unfold wp_St_undo_b28
        intro _ q; subst q
        intro _ q
        rw [show sx_u σ 0 0 0 10 (nI pe') 0 0 0 11 = nI u by rw [sx_u_at, if_neg (by omega)]; exact u4, show nI u - 1 = nI (u - 1) from pk_sub (b := 1) (by omega), ← e1] at q
        subst q
        rw [x10, nI_clamp (n := pe') (by omega)]
        exact ⟨vp_in_nI pe20 (by decide), w2 _ hQ⟩
      unfold wp_St_undo
      rw [u4, if_neg nu, u6]
      by_cases c : pe = 0
      · rw [if_pos (show nI pe = 0 by rw [c]; rfl)]
        rw [show pe' = 19 by omega] at fin; exact fin
      · rw [if_neg (nI_ne0 (by omega) (by omega)), show nI pe - 1 = nI (pe - 1) from pk_sub (b := 1) (by omega)]
        rw [show pe' = pe - 1 by omega] at fin; exact fin
    · have y36 : ρ0 50 0 0 36 = nI er := by rw [er0, sx_u_at, if_neg (by omega)]; exact u7
      have y37 : ρ0 50 0 0 37 = nI (u - 1) := by rw [er0, sx_u_at]; simp
      unfold wp_Mo_undo
      rw [u5, if_neg nu]
      intro _ q
      rw [show nI u - 1 = nI (u - 1) from pk_sub (b := 1) (by omega), ← er0] at q
      subst q
      rw [y36, y37, nI_add, show nI (er + (u - 1)) - nI (er + (u - 1)) / 20 * 20 = nI ((er + (u - 1)) % 20) from pk_rem (d := 20) (by omega) (by decide) (by decide), ← hi, show (643 : Int32) * nI i = nI (643 * i) from pk_mul 643 i]
      exact wr _ hQ
end ACTS2
