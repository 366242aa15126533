/-- what of the living side is left alone -/
def pr_s (v : Nat) (ρ ρ2 : sx_M) : Prop := (∀ k j, k = 58 ∨ k = 59 ∨ k = 65 → ¬ j = v → ρ2 k 0 0 j = ρ k 0 0 j) ∧ (∀ k j, k = 61 ∨ k = 62 ∨ k = 63 → ¬ (16 * v ≤ j ∧ j < 16 * v + 16) → ρ2 k 0 0 j = ρ k 0 0 j) ∧ (∀ j, ¬ (49 * v ≤ j ∧ j < 49 * v + 49) → ρ2 64 0 0 j = ρ 64 0 0 j) ∧ ∀ j, ¬ (9 * v ≤ j ∧ j < 9 * v + 9) → ρ2 66 0 0 j = ρ 66 0 0 j
/-- the rest of a read, behind the copy of the text -/
def pr_rd (Q : Int32 → sx_M → sx_L → Prop) (σ : sx_M) (τ : sx_L) : Prop := ∀ σ18 : sx_M, σ18 = sx_u σ 50 0 0 2 0 → (wp_Mo_parts σ18 τ (fun σ19 τ19 => ∀ σ20 : sx_M, σ20 = sx_u σ19 50 0 0 11 0 → (∀ σ21 : sx_M, σ21 = sx_u σ20 50 0 0 12 0 → (∀ σ22 : sx_M, σ22 = sx_u σ21 50 0 0 14 0 → (∀ σ23 : sx_M, σ23 = sx_u σ22 50 0 0 18 (1 - (σ22 50 0 0 17)) → (wp_Mo_plain (σ23 50 0 0 18) σ23 τ19 (fun σ24 τ24 => ∃ f78, wp_Mo_read_b78 Q f78 σ24 τ24)))))))
section READ
variable {P L t nt N v m p l : Nat} {σ σ2 ρ ρ2 : sx_M} {θ θ2 : sx_L} {B : Nat → Int32}
theorem pr_s.tr {a b c : sx_M} (h : pr_s v a b) (h2 : pr_s v b c) : pr_s v a c := ⟨fun k j q r => (h2.1 k j q r).trans (h.1 k j q r), fun k j q r => (h2.2.1 k j q r).trans (h.2.1 k j q r), fun j q => (h2.2.2.1 j q).trans (h.2.2.1 j q), fun j q => (h2.2.2.2 j q).trans (h.2.2.2 j q)⟩
theorem pr_s.e (h : ∀ k, 58 ≤ k → k ≤ 66 → ρ2 k 0 0 = ρ k 0 0) : pr_s v ρ ρ2 := ⟨fun k j hk _ => by rw [h k (by omega) (by omega)], fun k j hk _ => by rw [h k (by omega) (by omega)], fun j _ => by rw [h 64 (by decide) (by decide)], fun j _ => by rw [h 66 (by decide) (by decide)]⟩
theorem pr_g.s (h : pr_g v ρ ρ2) : pr_s v ρ ρ2 := ⟨h.2.2.1, h.2.2.2.1, h.2.2.2.2.1, h.2.2.2.2.2⟩
theorem pn_P.m0 {u : Nat} (h : pn_P P L u σ ρ) (hc : ∀ k q, 8 ≤ k → k ≤ 14 → σ2 k 0 q = σ k 0 q) (h17 : ρ2 50 0 0 17 = ρ 50 0 0 17) (hs : pr_s v ρ ρ2) (hv : ¬ v = u) (hv2 : v < 2) : pn_P P L u σ2 ρ2 := by
  obtain ⟨a0, a1, a2, a3, a4, a5, a6, a7⟩ := h
  obtain ⟨s1, s2, s3, s4⟩ := hs
  obtain ⟨hP, hL, hu⟩ := a0
  have e8 := hc 8 0 (by decide) (by decide)
  have e9 := hc 9 0 (by decide) (by decide)
  have e10 := hc 10 0 (by decide) (by decide)
  have e11 := hc 11 0 (by decide) (by decide)
  have e14 := hc 14 0 (by decide) (by decide)
  refine ⟨⟨hP, hL, hu⟩, ⟨by rw [e8]; exact a1.1, by rw [e8]; exact a1.2.1, by rw [h17]; exact a1.2.2.1, by rw [s1 58 u (by decide) (by omega)]; exact a1.2.2.2.1, by rw [s1 59 u (by decide) (by omega)]; exact a1.2.2.2.2⟩, ⟨by rw [e8]; exact a2.1, by rw [e8, s1 65 u (by decide) (by omega)]; exact a2.2⟩, fun i hi => ?_, by rw [e14]; exact a4, fun a b ha hb => ?_, fun a ha => ?_, fun k hk => ?_⟩
  · rw [e14, s4 (9 * u + i) (by omega)]; exact a3 i hi
  · rw [hc 13 a (by decide) (by decide), e9, e10, s3 (49 * u + 7 * a + b) (by omega)]; exact a5 a b ha hb
  · rw [hc 13 a (by decide) (by decide)]; exact a6 a ha
  · rw [e9, e10, e11, s2 61 _ (by decide) (by omega), s2 62 _ (by decide) (by omega), s2 63 _ (by decide) (by omega)]
    obtain ⟨q1, q2, q3, q4, a, b, q5, q6, q7, q8, q9, q10, q11⟩ := a7 k hk
    exact ⟨q1, q2, q3, q4, a, b, q5, q6, q7, q8, q9, by rw [hc 13 a (by decide) (by decide)]; exact q10, by rw [hc 13 b (by decide) (by decide)]; exact q11⟩
theorem pn_A.m0 {n : Nat} (h : pn_A P σ n) (hs : pn_s n σ σ2) (hc : ∀ k q, 8 ≤ k → k ≤ 14 → σ2 k 0 q = σ k 0 q) : pn_A P σ2 n := by
  intro p p0 pP pX pon pr
  rw [hs 27 p (by omega) (by omega)] at pon pr
  refine pn_zz_c (fun k => ?_) (fun j _ _ => by rw [hs 27 p (by omega) (by omega)]) (fun j => by rw [hc 14 0 (by decide) (by decide)]) (h p p0 pP pX pon pr)
  unfold pn_of pn_nb pn_st
  rw [hc 13 p (by decide) (by decide), hc 8 0 (by decide) (by decide), hs 18 0 (by omega) (by omega), hs 19 0 (by omega) (by omega), hs 28 p (by omega) (by omega), hs 27 p (by omega) (by omega), hs 27 k (by omega) (by omega)]
/-- a text that wasn't taken leaves all as it was -/
theorem pn_I.rd (h : pn_I σ ρ θ) (hc : ∀ k n q, ¬ (k = 1 ∨ (3 ≤ k ∧ k ≤ 7) ∨ k = 15 ∨ ((8 ≤ k ∧ k ≤ 14) ∧ n = 1)) → σ2 k n q = σ k n q) (hr : ∀ k n q, ¬ (k = 50 ∨ (52 ≤ k ∧ k ≤ 55) ∨ (58 ≤ k ∧ k ≤ 66)) → ρ2 k n q = ρ k n q) (h5 : ∀ j, ¬ (j = 2 ∨ j = 4 ∨ (10 ≤ j ∧ j ≤ 16) ∨ j = 18) → ρ2 50 0 0 j = ρ 50 0 0 j) (hs : pr_s v ρ ρ2) (hv : ρ 50 0 0 17 = nI (1 - v)) (hv2 : v < 2) (h1 : σ2 1 0 0 1 = 0) (h2 : ρ2 50 0 0 2 = 0) (h34 : σ2 3 0 0 4 = ρ2 50 0 0 16) (hk : θ2 57 = θ 57) : pn_I σ2 ρ2 θ2 := by
  obtain ⟨P, L, u, m, hP, hN, hA, ⟨-, hU, hH, ⟨s1, s2, s3⟩, ky⟩⟩ := h
  have eu : u = 1 - v := by
    have := hP.2.1.2.2.1
    rw [hv] at this
    have := (nI_eq (by omega) (by have := hP.1.2.2; omega)).mp this
    omega
  have c0 : ∀ k q, 8 ≤ k → k ≤ 14 → σ2 k 0 q = σ k 0 q := fun k q a b => hc k 0 q (by omega)
  have cN : ∀ n, pn_s n σ σ2 := fun n k q a b => hc k n q (by omega)
  refine ⟨P, L, u, m, hP.m0 c0 (h5 17 (by decide)) hs (by omega) hv2, hN.mv (cN 0) (hr 67 0 0 (by omega)), hA.m0 (cN 0) c0, ⟨⟨0, by decide, h1, h2, fun i hi => absurd hi (Nat.not_lt_zero i)⟩, h34⟩, ?_, ?_, ⟨by rw [hc 31 0 0 (by omega)]; exact s1, by rw [hc 31 1 0 (by omega)]; exact s2, by rw [h5 31 (by decide)]; exact s3⟩, fun i hi => by rw [hk]; exact ky i hi⟩
  · obtain ⟨u, pe, er, a1, a2, a3, a4, a5, a6, a7, a8⟩ := hU
    refine ⟨u, pe, er, a1, a2, a3, by rw [hc 0 0 0 (by omega)]; exact a4, by rw [h5 37 (by decide)]; exact a5, by rw [hc 0 0 0 (by omega)]; exact a6, by rw [h5 36 (by decide)]; exact a7, fun j hj => ?_⟩
    obtain ⟨m, b1, b2⟩ := a8 j hj
    exact ⟨m, b1.mv (cN _) (hr 71 0 0 (by omega)), b2.m0 (cN _) c0⟩
  · intro s hs3
    obtain ⟨a, b, c⟩ := hH s hs3
    rw [hc 39 0 0 (by omega), hr 73 0 0 (by omega)]
    refine ⟨a, b, fun z => ?_⟩
    obtain ⟨m, d, e⟩ := c z
    exact ⟨m, d.mv (cN _) (hr 72 0 0 (by omega)), e.m0 (cN _) c0⟩
/-- the text is copied -/
theorem R_text {t : Nat} (ht : t ≤ 2000) : ∀ (d i : Nat) (ρ : sx_M), i + d = t → ρ 50 0 0 4 = nI t → ∃ ρ2, (∀ j, i ≤ j → j < t → ρ2 52 0 0 j = vp_nar .byte (ρ 51 0 0 j)) ∧ (∀ j, j < i → ρ2 52 0 0 j = ρ 52 0 0 j) ∧ (∀ k n q, ¬ k = 52 → ρ2 k n q = ρ k n q) ∧ ∀ Q : Int32 → sx_M → sx_L → Prop, pr_rd Q ρ2 θ → ∃ f, wp_Mo_read_b10 Q f (nI i) ρ θ := by
  intro d
  induction d with
  | zero =>
    intro i ρ hi h4
    refine ⟨ρ, fun j h1 h2 => by omega, fun _ _ => rfl, fun _ _ _ _ => rfl, fun Q hQ => ⟨1, ?_⟩⟩
    rw [wp_Mo_read_b10, h4, if_pos (nI_le (by omega) (by omega))]; exact hQ
  | succ d ih =>
    intro i ρ hi h4
    obtain ⟨ρ3, e3⟩ : ∃ z, z = sx_u ρ 52 0 0 i (vp_nar .byte (ρ 51 0 0 i)) := ⟨_, rfl⟩
    have o3 : ∀ k n q, ¬ k = 52 → ρ3 k n q = ρ k n q := fun k n q h => by rw [e3, sx_u_row _ _ _ _ _ _ (by omega)]
    obtain ⟨ρ2, a1, a2, a3, a4⟩ := ih (i + 1) ρ3 (by omega) (by rw [o3 50 0 0 (by decide)]; exact h4)
    refine ⟨ρ2, fun j h1 h2 => ?_, fun j hj => ?_, fun k n q h => by rw [a3 k n q h, o3 k n q h], fun Q hQ => ?_⟩
    · by_cases z : j = i
      · rw [z, a2 i (by omega), e3, sx_u_at]; simp
      · rw [a1 j (by omega) h2, o3 51 0 0 (by decide)]
    · rw [a2 j (by omega), e3, sx_u_at, if_neg (by omega)]
    · obtain ⟨f, hf⟩ := a4 Q hQ
      refine ⟨f + 1, ?_⟩
      rw [wp_Mo_read_b10, h4, if_neg (nI_ge (by omega) (by omega)), nI_clamp (n := i) (by omega), nI_1]
      refine ⟨vp_in_nI (by omega) (by decide), vp_in_nI (by omega) (by decide), ?_⟩
      intro _ q; rw [← e3] at q; subst q; exact hf
/-- the draft becomes the plan -/
theorem C_plan (hz : pn_z (σ 8 1 0 7)) : ∃ σ2, (∀ j, j = 0 ∨ j = 1 ∨ j = 7 → σ2 8 0 0 j = σ 8 1 0 j) ∧ (∀ k j, k = 9 ∨ k = 10 ∨ k = 11 → j < 16 → σ2 k 0 0 j = σ k 1 0 j) ∧ (∀ j, j < 9 → σ2 14 0 0 j = σ 14 1 0 j) ∧ (∀ a j, a < 7 → j < 7 → σ2 13 0 a j = σ 13 1 a j) ∧ (∀ k n q, ¬ ((8 ≤ k ∧ k ≤ 14) ∧ n = 0) → σ2 k n q = σ k n q) ∧ ∀ Q : sx_M → Prop, Q σ2 → wp_Pl_copyFrom 0 1 σ Q := by
  have z0 : (0 : Int32).toNatClampNeg = 0 := rfl
  have z7 : (7 : Int32).toNatClampNeg = 7 := rfl
  have z9 : (9 : Int32).toNatClampNeg = 9 := rfl
  have z16 : (16 : Int32).toNatClampNeg = 16 := rfl
  have L1 : ∀ (d a : Nat) (σ : sx_M), a + d = 7 → ∃ σ2, (∀ i j, a ≤ i → i < 7 → j < 7 → σ2 13 0 i j = σ 13 1 i j) ∧ (∀ i, i < a → σ2 13 0 i = σ 13 0 i) ∧ (∀ k n q, ¬ (k = 13 ∧ n = 0) → σ2 k n q = σ k n q) ∧ ∀ Q : sx_M → Prop, Q σ2 → ∃ f, wp_Pl_copyFrom_b88 0 Q f 1 (nI a) σ := by
    intro d
    induction d with
    | zero =>
      intro a σ ha
      refine ⟨σ, fun i j h1 h2 _ => by omega, fun _ _ => rfl, fun _ _ _ _ => rfl, fun Q h => ⟨1, ?_⟩⟩
      rw [wp_Pl_copyFrom_b88, if_pos (show 7 ≤ nI a from nI_le (a := 7) (by omega) (by omega))]; exact h
    | succ d ih =>
      intro a σ ha
      obtain ⟨σ3, e3⟩ : ∃ z, z = sx_r σ 13 0 a (va_cpy (σ 13 1 a) (σ 13 0 a) 0 0 7) := ⟨_, rfl⟩
      have o3 : ∀ k n q, ¬ (k = 13 ∧ n = 0 ∧ q = a) → σ3 k n q = σ k n q := fun k n q h => by rw [e3]; exact sx_r_ne h
      obtain ⟨σ2, a1, a2, a3, a4⟩ := ih (a + 1) σ3 (by omega)
      refine ⟨σ2, fun i j h1 h2 hj => ?_, fun i hi => ?_, fun k n q h => ?_, fun Q h => ?_⟩
      · by_cases z : i = a
        · rw [z, a2 a (by omega), e3, sx_r_row, cpy_at, if_pos hj]
        · rw [a1 i j (by omega) h2 hj, o3 13 1 i (by omega)]
      · rw [a2 i (by omega)]; exact o3 13 0 i (by omega)
      · rw [a3 k n q h]; exact o3 k n q (by omega)
      · obtain ⟨f, hf⟩ := a4 Q h
        refine ⟨f + 1, ?_⟩
        rw [wp_Pl_copyFrom_b88, if_neg (show ¬ 7 ≤ nI a from nI_ge (b := 7) (by omega) (by decide)), nI_clamp (n := a) (by omega), nI_1, z0, z7]
        refine ⟨vp_in_nI (by omega) (by decide), vp_in_nI (by omega) (by decide), ⟨by decide, by decide, by decide, by decide, by decide⟩, ?_⟩
        intro _ q; rw [← e3] at q; subst q; exact hf
  obtain ⟨s1, e1⟩ : ∃ z, z = sx_u (sx_u (sx_u σ 8 0 0 0 (σ 8 1 0 0)) 8 0 0 1 (σ 8 1 0 1)) 8 0 0 7 (σ 8 1 0 7) := ⟨_, rfl⟩
  have o1 : ∀ k n q, ¬ (k = 8 ∧ n = 0) → s1 k n q = σ k n q := fun k n q h => by rw [e1, sx_u_row _ _ _ _ _ _ (by omega), sx_u_row _ _ _ _ _ _ (by omega), sx_u_row _ _ _ _ _ _ (by omega)]
  obtain ⟨s2, e2⟩ : ∃ z, z = sx_r s1 9 0 0 (va_cpy (s1 9 1 0) (s1 9 0 0) 0 0 16) := ⟨_, rfl⟩
  have o2 : ∀ k n q, ¬ (k = 9 ∧ n = 0 ∧ q = 0) → s2 k n q = s1 k n q := fun k n q h => by rw [e2]; exact sx_r_ne h
  obtain ⟨s3, e3⟩ : ∃ z, z = sx_r s2 10 0 0 (va_cpy (s2 10 1 0) (s2 10 0 0) 0 0 16) := ⟨_, rfl⟩
  have o3 : ∀ k n q, ¬ (k = 10 ∧ n = 0 ∧ q = 0) → s3 k n q = s2 k n q := fun k n q h => by rw [e3]; exact sx_r_ne h
  obtain ⟨s4, e4⟩ : ∃ z, z = sx_r s3 11 0 0 (va_cpy (s3 11 1 0) (s3 11 0 0) 0 0 16) := ⟨_, rfl⟩
  have o4 : ∀ k n q, ¬ (k = 11 ∧ n = 0 ∧ q = 0) → s4 k n q = s3 k n q := fun k n q h => by rw [e4]; exact sx_r_ne h
  obtain ⟨s5, e5⟩ : ∃ z, z = sx_r s4 14 0 0 (va_cpy (s4 14 1 0) (s4 14 0 0) 0 0 9) := ⟨_, rfl⟩
  have o5 : ∀ k n q, ¬ (k = 14 ∧ n = 0 ∧ q = 0) → s5 k n q = s4 k n q := fun k n q h => by rw [e5]; exact sx_r_ne h
  obtain ⟨σ2, a1, a2, a3, a4⟩ := L1 7 0 s5 rfl
  have w : ∀ k n q, ¬ ((8 ≤ k ∧ k ≤ 14) ∧ n = 0) → s5 k n q = σ k n q := fun k n q h => by rw [o5 k n q (by omega), o4 k n q (by omega), o3 k n q (by omega), o2 k n q (by omega), o1 k n q (by omega)]
  refine ⟨σ2, fun j hj => ?_, fun k j hk hj => ?_, fun j hj => ?_, fun a j ha hj => ?_, fun k n q h => ?_, fun Q hQ => ?_⟩
  · rw [a3 8 0 0 (by omega), o5 8 0 0 (by omega), o4 8 0 0 (by omega), o3 8 0 0 (by omega), o2 8 0 0 (by omega), e1]
    rcases hj with rfl | rfl | rfl
    · rw [sx_u_at, if_neg (by omega), sx_u_at, if_neg (by omega), sx_u_at]; simp
    · rw [sx_u_at, if_neg (by omega), sx_u_at]; simp
    · rw [sx_u_at]; simp
  · rw [a3 k 0 0 (by omega), o5 k 0 0 (by omega)]
    rcases hk with rfl | rfl | rfl
    · rw [o4 9 0 0 (by omega), o3 9 0 0 (by omega), e2, sx_r_row, cpy_at, if_pos hj, o1 9 1 0 (by omega)]
    · rw [o4 10 0 0 (by omega), e3, sx_r_row, cpy_at, if_pos hj, o2 10 1 0 (by omega), o1 10 1 0 (by omega)]
    · rw [e4, sx_r_row, cpy_at, if_pos hj, o3 11 1 0 (by omega), o2 11 1 0 (by omega), o1 11 1 0 (by omega)]
  · rw [a3 14 0 0 (by omega), e5, sx_r_row, cpy_at, if_pos hj, o4 14 1 0 (by omega), o3 14 1 0 (by omega), o2 14 1 0 (by omega), o1 14 1 0 (by omega)]
  · rw [a1 a j (Nat.zero_le _) ha hj, w 13 1 a (by omega)]
  · rw [a3 k n q (by omega), w k n q h]
  · unfold wp_Pl_copyFrom
    rw [z0, z9, z16]
    intro σ6 q6
    intro σ7 q7
    have r7 : σ7 8 1 0 7 = σ 8 1 0 7 := by rw [q7, sx_u_row _ _ _ _ _ _ (by omega), q6, sx_u_row _ _ _ _ _ _ (by omega)]
    rw [r7]
    refine ⟨hz, ?_⟩
    intro σ9 q9
    have : σ9 = s1 := by rw [q9, q7, q6, e1, sx_u_row _ _ _ _ _ _ (show ¬ (8 = 8 ∧ 1 = 0 ∧ 0 = 0) by omega)]
    subst this
    refine ⟨⟨by decide, by decide, by decide, by decide, by decide⟩, ?_⟩
    intro _ q; rw [← e2] at q; replace q := q.symm; subst q
    refine ⟨⟨by decide, by decide, by decide, by decide, by decide⟩, ?_⟩
    intro _ q; rw [← e3] at q; replace q := q.symm; subst q
    refine ⟨⟨by decide, by decide, by decide, by decide, by decide⟩, ?_⟩
    intro _ q; rw [← e4] at q; replace q := q.symm; subst q
    refine ⟨⟨by decide, by decide, by decide, by decide, by decide⟩, ?_⟩
    intro _ q; rw [← e5] at q; replace q := q.symm; subst q
    exact a4 Q hQ
/-- the draft's plan lives -/
theorem dr_.pP (h : dr_ B t N v P L σ ρ θ) (h8 : ∀ j, j = 0 ∨ j = 1 ∨ j = 7 → σ2 8 0 0 j = σ 8 1 0 j) (h9 : ∀ k j, k = 9 ∨ k = 10 ∨ k = 11 → j < 16 → σ2 k 0 0 j = σ k 1 0 j) (h14 : ∀ j, j < 9 → σ2 14 0 0 j = σ 14 1 0 j) (h13 : ∀ a j, a < 7 → j < 7 → σ2 13 0 a j = σ 13 1 a j) (h17 : ρ2 50 0 0 17 = nI v) (hr : ∀ k, 58 ≤ k → k ≤ 66 → ρ2 k 0 0 = ρ k 0 0) (e58 : ρ 58 0 0 v = nI P) (e59 : ρ 59 0 0 v = nI L) : pn_P P L v σ2 ρ2 := by
  obtain ⟨d0, d1, d2, d3, d4, d5, d6, d7, d8⟩ := h
  obtain ⟨hP, hL, hv⟩ := d0
  refine ⟨⟨hP, hL, hv⟩, ⟨by rw [h8 0 (by decide)]; exact d1.1, by rw [h8 1 (by decide)]; exact d1.2, h17, by rw [hr 58 (by decide) (by decide)]; exact e58, by rw [hr 59 (by decide) (by decide)]; exact e59⟩, ⟨by rw [h8 7 (by decide)]; exact d2.1, by rw [h8 7 (by decide), hr 65 (by decide) (by decide)]; exact d2.2⟩, fun i hi => ?_, ⟨?_, ?_, ?_, ?_⟩, fun a b ha hb => ?_, fun a ha => ?_, fun k hk => ?_⟩
  · rw [h14 i hi, hr 66 (by decide) (by decide)]; exact d3 i hi
  · rw [h14 0 (by decide)]; exact d4.1
  · rw [h14 1 (by decide)]; exact d4.2.1
  · rw [h14 6 (by decide)]; exact d4.2.2.1
  · rw [h14 5 (by decide)]; exact d4.2.2.2
  · rw [h13 a b (by omega) (by omega), hr 64 (by decide) (by decide)]
    obtain ⟨q1, q2⟩ := d5 a b (by omega) (by omega)
    refine ⟨q1, ?_⟩
    rcases q2 with q2 | ⟨-, -, k, q4, q5, q6⟩
    · exact Or.inl q2
    · refine Or.inr ⟨k, q4, q5, ?_⟩
      rw [h9 9 k (by decide) (by omega), h9 10 k (by decide) (by omega)]; exact q6
  · rw [h13 a a (by omega) (by omega)]; exact d6 a (by omega)
  · rw [h9 9 k (by decide) (by omega), h9 10 k (by decide) (by omega), h9 11 k (by decide) (by omega), hr 61 (by decide) (by decide), hr 62 (by decide) (by decide), hr 63 (by decide) (by decide)]
    obtain ⟨q1, q2, q3, q4, a, b, q5, q6, q7, q8, q9, q10, q11⟩ := d7 k hk
    exact ⟨q1, q2, q3, q4, a, b, q5, q6, q7, q8, q9, by rw [h13 a b (by omega) (by omega)]; exact q10, by rw [h13 b a (by omega) (by omega)]; exact q11⟩
/-- an empty draft -/
theorem dr_.o (hv : v < 2) (h8 : σ 8 1 0 0 = 0 ∧ σ 8 1 0 1 = 0 ∧ σ 8 1 0 7 = 0) (h14 : ∀ i, i < 9 → σ 14 1 0 i = kx_sta 0 i) (h13 : ∀ a b, a < 7 → b < 7 → σ 13 1 a b = -1) (h65 : ρ 65 0 0 v = 0) (h66 : ∀ i, i < 9 → ρ 66 0 0 (9 * v + i) = kx_sta 0 i) (h64 : ∀ i, i < 49 → ρ 64 0 0 (49 * v + i) = -1) : dr_ B t N v 0 0 σ ρ θ := by
  have st : ∀ i, i < 9 → ∃ q, q ≤ 9999 ∧ kx_sta 0 i = nI q := by
    intro i hi
    have cs : i = 0 ∨ i = 1 ∨ i = 2 ∨ i = 3 ∨ i = 4 ∨ i = 5 ∨ i = 6 ∨ i = 7 ∨ i = 8 := by omega
    rcases cs with rfl | rfl | rfl | rfl | rfl | rfl | rfl | rfl | rfl
    · exact ⟨4, by decide, rfl⟩
    · exact ⟨3, by decide, rfl⟩
    · exact ⟨2, by decide, rfl⟩
    · exact ⟨5, by decide, rfl⟩
    · exact ⟨60, by decide, rfl⟩
    · exact ⟨4, by decide, rfl⟩
    · exact ⟨12, by decide, rfl⟩
    · exact ⟨0, by decide, rfl⟩
    · exact ⟨0, by decide, rfl⟩
  refine ⟨⟨by decide, by decide, hv⟩, ⟨h8.1, h8.2.1⟩, ⟨Or.inl h8.2.2, by rw [h65, h8.2.2]⟩, fun i hi => ⟨by rw [h66 i hi, h14 i hi], by rw [h14 i hi]; exact st i hi⟩, ⟨⟨2, by decide, by decide, h14 0 (by decide)⟩, ⟨3, by decide, h14 1 (by decide)⟩, ⟨12, by decide, by decide, h14 6 (by decide)⟩, ⟨4, by decide, by decide, h14 5 (by decide)⟩⟩, fun a b ha hb => ⟨?_, Or.inl (h13 a b ha hb)⟩, fun a ha => h13 a a ha ha, fun k hk => absurd hk (Nat.not_lt_zero k), fun i hi => absurd hi (Nat.not_lt_zero i)⟩
  rw [h13 a b ha hb]
  have := h64 (7 * a + b) (by omega)
  rw [← Nat.add_assoc] at this; exact this
end READ
