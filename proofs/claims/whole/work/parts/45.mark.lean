section MARK
variable {P L v m n k b : Nat} {σ σ2 ρ ρ2 : sx_M} {θ : sx_L}
/-- the class marks what stands -/
theorem C_remember (hP : pn_P P L v σ ρ) (hN : pn_N P L m σ 0 ρ 67 0) {u pe : Nat} (hu : u ≤ 20) (hpe : pe < 20) (h11 : σ 0 0 0 11 = nI u) (h10 : σ 0 0 0 10 = nI pe) :
    ∃ σ2, pn_cn P m (2 + pe) 0 σ σ2 ∧ (∀ k n' p, ¬ ((16 ≤ k ∧ k ≤ 30) ∧ n' = 2 + pe) → ¬ (k = 0 ∧ n' = 0 ∧ p = 0) → σ2 k n' p = σ k n' p) ∧ σ2 0 0 0 10 = nI ((pe + 1) % 20) ∧ σ2 0 0 0 11 = nI (if u = 20 then 20 else u + 1) ∧ ∀ Q : sx_M → Prop, Q σ2 → wp_St_remember σ Q := by
  obtain ⟨hm, hmr, hmc⟩ := hN.2.2.1
  obtain ⟨σ1, c1, f1, w1⟩ := C_ncopy hP (n := 2 + pe) (n1 := 0) (by omega) hm hmc (fun p hp => hN.2.2.2.2.1.1 p hp)
  have r0 : σ1 0 0 0 = σ 0 0 0 := f1 0 0 0 (by omega)
  obtain ⟨s2, e2⟩ : ∃ x, x = sx_u σ1 0 0 0 10 (nI ((pe + 1) % 20)) := ⟨_, rfl⟩
  obtain ⟨s3, e3⟩ : ∃ x, x = sx_u s2 0 0 0 11 (nI (if u = 20 then 20 else u + 1)) := ⟨_, rfl⟩
  have o2 : ∀ k n' p, ¬ (k = 0 ∧ n' = 0 ∧ p = 0) → s3 k n' p = σ1 k n' p := fun k n' p h => by rw [e3, sx_u_row _ _ _ _ _ _ h, e2, sx_u_row _ _ _ _ _ _ h]
  refine ⟨s3, ?_, fun k n' p h h2 => by rw [o2 k n' p h2]; exact f1 k n' p h, ?_, ?_, fun Q hQ => ?_⟩
  · obtain ⟨a, b, c, d, e, g⟩ := c1
    exact ⟨fun f h1 h2 => by rw [o2 16 _ _ (by omega)]; exact a f h1 h2, fun q l hq hl => by rw [o2 q _ _ (by omega)]; exact b q l hq hl, fun p j hp hj => by rw [o2 27 _ _ (by omega)]; exact c p j hp hj, fun q p j hq hp hj => by rw [o2 q _ _ (by omega)]; exact d q p j hq hp hj, by rw [o2 20 _ _ (by omega)]; exact e, fun q i hq hi => by rw [o2 q _ _ (by omega)]; exact g q i hq hi⟩
  · rw [e3, sx_u_at, if_neg (by omega), e2, sx_u_at]; simp
  · rw [e3, sx_u_at]; simp
  · unfold wp_St_remember
    rw [h10, nI_clamp (n := pe) (by omega)]
    refine ⟨vp_in_nI hpe (by decide), w1 _ ?_⟩
    have fin : wp_St_remember_b38 Q (nI ((pe + 1) % 20)) σ1 := by
      unfold wp_St_remember_b38
      have h11' : s2 0 0 0 11 = nI u := by rw [e2, sx_u_at, if_neg (by omega), r0]; exact h11
      have hv : (if (nI u) + 1 < 20 then (nI u) + 1 else 20) = nI (if u = 20 then 20 else u + 1) := by
        rw [nI_1]
        by_cases c : u + 1 < 20
        · rw [if_pos (show nI (u + 1) < 20 from nI_lt (b := 20) c (by decide)), if_neg (by omega)]
        · rw [if_neg (show ¬ nI (u + 1) < 20 from nI_nlt (b := 20) (by omega) (by omega))]
          by_cases c2 : u = 20
          · rw [if_pos c2]; rfl
          · rw [if_neg c2, show u + 1 = 20 by omega]; rfl
      intro _ q
      rw [← e2] at q
      subst q
      intro _ q
      rw [h11', hv, ← e3] at q
      subst q
      exact hQ
    rw [r0, h10, nI_1]
    by_cases c : pe + 1 = 20
    · rw [if_pos (show nI (pe + 1) = 20 by rw [c]; rfl)]
      rw [c] at fin; exact fin
    · rw [if_neg (show ¬ nI (pe + 1) = 20 from fun z => c ((nI_eq (b := 20) (by omega) (by decide)).mp z))]
      rw [Nat.mod_eq_of_lt (by omega)] at fin; exact fin
/-- both mark what stands -/
theorem S_mark (hP : pn_P P L v σ ρ) (hN : pn_N P L m σ 0 ρ 67 0) (hA : pn_A P σ 0) (hW : pn_W P L σ ρ θ) :
    ∃ σ2 ρ2, pn_T P L v m 0 σ2 ρ2 ∧ pn_A P σ2 0 ∧ pn_W P L σ2 ρ2 θ ∧ pn_s 0 σ σ2 ∧ (∀ k n p, k < 16 → 0 < k → σ2 k n p = σ k n p) ∧ (∀ Q : sx_M → Prop, Q σ2 → wp_St_remember σ Q) ∧ (∀ Q : sx_M → sx_L → Prop, Q ρ2 θ → wp_Mo_marks ρ θ Q) := by
  obtain ⟨hm, hmr, hmc⟩ := hN.2.2.1
  obtain ⟨⟨⟨t, t1, t2, t3, t4⟩, t5⟩, ⟨u, pe, er, u1, u2, u3, u4, u5, u6, u7, u8⟩, hH, ⟨s1, s2, s3⟩, ky⟩ := id hW
  obtain ⟨σ2, cn, cf, c10, c11, wC⟩ := C_remember hP hN u1 u2 u4 u6
  obtain ⟨u', hu'⟩ : ∃ x, x = if u = 20 then 20 else u + 1 := ⟨_, rfl⟩
  obtain ⟨er', her⟩ : ∃ x, x = if u = 20 then (er + 1) % 20 else er := ⟨_, rfl⟩
  rw [← hu'] at c11
  have hu1 : u' ≤ 20 ∧ 0 < u' := by rw [hu']; split <;> omega
  have her1 : er' < 20 := by rw [her]; split <;> omega
  -- the reference: the ring's place
  obtain ⟨ρ0, e0⟩ : ∃ x, x = (if u = 20 then sx_u (sx_u ρ 50 0 0 36 (nI er')) 50 0 0 37 (nI 19) else ρ) := ⟨_, rfl⟩
  have o0 : ∀ k n p, ¬ (k = 50 ∧ n = 0 ∧ p = 0) → ρ0 k n p = ρ k n p := fun k n p h => by
    rw [e0]; split
    · rw [sx_u_row _ _ _ _ _ _ h, sx_u_row _ _ _ _ _ _ h]
    · rfl
  have z36 : ρ0 50 0 0 36 = nI er' := by
    rw [e0]; by_cases c : u = 20
    · rw [if_pos c, sx_u_at, if_neg (by omega), sx_u_at]; simp
    · rw [if_neg c, u7, her, if_neg c]
  have z37 : ρ0 50 0 0 37 = nI (u' - 1) := by
    rw [e0]; by_cases c : u = 20
    · rw [if_pos c, sx_u_at, hu', if_pos c]; simp
    · rw [if_neg c, u5, hu', if_neg c]; rfl
  have zo : ∀ j, ¬ (j = 36 ∨ j = 37) → ρ0 50 0 0 j = ρ 50 0 0 j := fun j h => by
    rw [e0]; split
    · rw [sx_u_at, if_neg (by omega), sx_u_at, if_neg (by omega)]
    · rfl
  obtain ⟨i, hi⟩ : ∃ x, x = (er' + (u' - 1)) % 20 := ⟨_, rfl⟩
  have hi20 : i < 20 := by rw [hi]; exact Nat.mod_lt _ (by decide)
  obtain ⟨ρ1, a1, a2, a3, w1⟩ := R_now_earlier (ρ := ρ0) (θ := θ) (bf := 0) (bt := 643 * i) (m := m) (x := 0) (y := nI (643 * i)) rfl rfl hm (by rw [o0 67 0 0 (by decide)]; exact hmr) (by decide) (by omega)
  obtain ⟨ρ2, e2⟩ : ∃ x, x = sx_u ρ1 50 0 0 37 (nI u') := ⟨_, rfl⟩
  have o2 : ∀ k n p, ¬ (k = 50 ∧ n = 0 ∧ p = 0) → ρ2 k n p = ρ1 k n p := fun k n p h => by rw [e2, sx_u_row _ _ _ _ _ _ h]
  have g2 : ∀ k, ¬ k = 50 → ¬ k = 71 → ρ2 k 0 0 = ρ k 0 0 := fun k h1 h2 => by rw [o2 k 0 0 (by omega), a1 k 0 0 (by omega), o0 k 0 0 (by omega)]
  have g5 : ∀ j, ¬ (j = 36 ∨ j = 37) → ρ2 50 0 0 j = ρ 50 0 0 j := fun j h => by rw [e2, sx_u_at, if_neg (by omega), a1 50 0 0 (by decide), zo j h]
  have r71 : ρ2 71 0 0 = ρ1 71 0 0 := o2 71 0 0 (by decide)
  have hpn : ∀ k p, 16 ≤ k → k ≤ 30 → σ2 k 0 p = σ k 0 p := fun k p h1 h2 => cf k 0 p (by omega) (by omega)
  have h16 : ∀ k n p, k < 16 → 0 < k → σ2 k n p = σ k n p := fun k n p h1 h2 => cf k n p (by omega) (by omega)
  have P2 : pn_P P L v σ2 ρ2 := hP.mvA (fun k n p h1 h2 => h16 k n p h2 (by omega)) (g5 17 (by decide)) (fun k h1 h2 => g2 k (by omega) (by omega))
  have N2 : pn_N P L m σ2 0 ρ2 67 0 := hN.mv hpn (g2 67 (by decide) (by decide))
  have A2 : pn_A P σ2 0 := hA.mv8 hpn h16
  -- the one marked
  have Nn : pn_N P L m σ2 (2 + pe) ρ2 71 (643 * i) := by
    refine (hN.cn cn).cR (fun j hj => ?_)
    rw [r71, a2 j hj, o0 67 0 0 (by decide)]
  have An : pn_A P σ2 (2 + pe) := pn_Z.cC hP hN hA (fun k n p h1 h2 => h16 k n p h2 (by omega)) cn.2.1 cn.2.2.1 (fun p j hp hj => cn.2.2.2.1 28 p j (by decide) hp hj)
  -- an older one
  have old : ∀ c r, c < 20 → ¬ c = pe → r < 20 → ¬ r = i → (∃ m, pn_N P L m σ (2 + c) ρ 71 (643 * r) ∧ pn_A P σ (2 + c)) → ∃ m, pn_N P L m σ2 (2 + c) ρ2 71 (643 * r) ∧ pn_A P σ2 (2 + c) := by
    intro c r hc hcp hr hri h
    obtain ⟨mm, b1, b2⟩ := h
    have hs : pn_s (2 + c) σ σ2 := fun k p h1 h2 => cf k (2 + c) p (by omega) (by omega)
    refine ⟨mm, (b1.mv hs rfl).cR (fun j hj => ?_), b2.mv8 hs h16⟩
    have mb := b1.2.2.1.1
    rw [r71, a3 _ (by omega), o0 71 0 0 (by decide)]
  have U2 : pn_U P L σ2 ρ2 := by
    refine ⟨u', (pe + 1) % 20, er', hu1.1, Nat.mod_lt _ (by decide), her1, c11, ?_, c10, ?_, fun j hj => ?_⟩
    · rw [e2, sx_u_at]; simp
    · rw [e2, sx_u_at, if_neg (by omega), a1 50 0 0 (by decide)]; exact z36
    · by_cases cj : j = u' - 1
      · have x1 : ((pe + 1) % 20 + 20 - u' + j) % 20 = pe := by omega
        have x2 : (er' + j) % 20 = i := by rw [hi, cj]
        rw [x1, x2]
        exact ⟨m, Nn, An⟩
      · obtain ⟨j', hj'⟩ : ∃ x, x = if u = 20 then j + 1 else j := ⟨_, rfl⟩
        have x0 : j' < u := by rw [hj']; by_cases c : u = 20 <;> simp only [c, if_true, if_false] at hu' ⊢ <;> omega
        have x1 : ((pe + 1) % 20 + 20 - u' + j) % 20 = (pe + 20 - u + j') % 20 := by
          by_cases c : u = 20
          · rw [if_pos c] at hu' hj'; omega
          · rw [if_neg c] at hu' hj'; omega
        have x2 : (er' + j) % 20 = (er + j') % 20 := by
          by_cases c : u = 20
          · rw [if_pos c] at hu' hj' her; omega
          · rw [if_neg c] at hu' hj' her; rw [her, hj']
        rw [x1, x2]
        refine old _ _ (Nat.mod_lt _ (by decide)) ?_ (Nat.mod_lt _ (by decide)) ?_ (u8 j' x0)
        · rw [← x1]; omega
        · rw [← x2, hi]; omega
  have H2 : pn_H P L σ2 ρ2 := hH.mv (fun s hs k p h1 h2 => cf k (22 + s) p (by omega) (by omega)) h16 (cf 39 0 0 (by omega) (by omega)) (g2 72 (by decide) (by decide)) (g2 73 (by decide) (by decide))
  have W2 : pn_W P L σ2 ρ2 θ := by
    refine ⟨⟨⟨t, t1, ?_, ?_, fun i hi => ?_⟩, ?_⟩, U2, H2, ⟨?_, ?_, ?_⟩, ky⟩
    · rw [h16 1 0 0 (by decide) (by decide)]; exact t2
    · rw [g5 2 (by decide)]; exact t3
    · rw [h16 2 0 0 (by decide) (by decide), g2 51 (by decide) (by decide)]; exact t4 i hi
    · rw [h16 3 0 0 (by decide) (by decide), g5 16 (by decide)]; exact t5
    · rw [cf 31 0 0 (by omega) (by omega)]; exact s1
    · rw [cf 31 1 0 (by omega) (by omega)]; exact s2
    · rw [g5 31 (by decide)]; exact s3
  obtain ⟨ρ3, T3, q3, w3⟩ := R_copies P2 N2 W2
  refine ⟨σ2, ρ3, T3, A2, W2.look pn_qc.rf q3, hpn, h16, wC, fun Q hQ => ?_⟩
  have fin : wp_Mo_marks_b32 Q ρ0 θ := by
    unfold wp_Mo_marks_b32
    rw [z36, z37, nI_add, show nI (er' + (u' - 1)) - nI (er' + (u' - 1)) / 20 * 20 = nI ((er' + (u' - 1)) % 20) from pk_rem (d := 20) (by omega) (by decide) (by decide), ← hi, show (643 : Int32) * nI i = nI (643 * i) from pk_mul 643 i]
    refine w1 _ ?_
    intro _ q
    rw [a1 50 0 0 (by decide), z37, nI_1, show u' - 1 + 1 = u' by omega, ← e2] at q
    subst q
    exact w3 _ hQ
  unfold wp_Mo_marks
  rw [u5]
  by_cases c : u = 20
  · rw [if_pos (show nI u = 20 by rw [c]; rfl)]
    rw [if_pos c] at e0 her
    intro _ q
    rw [u7, nI_1, show nI (er + 1) - nI (er + 1) / 20 * 20 = nI ((er + 1) % 20) from pk_rem (d := 20) (by omega) (by decide) (by decide), ← her] at q
    subst q
    intro _ q
    rw [sx_u_at, if_neg (by omega), u5, c, show nI 20 - 1 = nI 19 from rfl, ← e0] at q
    subst q
    exact fin
  · rw [if_neg (show ¬ nI u = 20 from fun z => c ((nI_eq (b := 20) (by omega) (by decide)).mp z))]
    rw [if_neg c] at e0
    rw [← e0]
    exact fin
end MARK
