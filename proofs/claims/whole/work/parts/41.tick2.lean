theorem cpy_at (f g : Nat → Int32) (n j : Nat) : va_cpy f g 0 0 n j = if j < n then f j else g j := by
  unfold va_cpy
  by_cases h : j < n
  · rw [if_pos ⟨Nat.zero_le _, by omega⟩, if_pos h]
    congr 1
    omega
  · rw [if_neg (by omega), if_neg h]
section TICK2
variable {P L v m e : Nat} {σ σ2 ρ : sx_M} {θ : sx_L}
/-- one mail is another's -/
theorem C_mail {n n1 : Nat} (hn : ¬ n = n1) (hm : m ≤ 200) (h0 : σ 20 n1 0 0 = nI m) :
    ∃ σ2, σ2 20 n 0 0 = nI m ∧ (∀ q i, (21 ≤ q ∧ q ≤ 26) → i < m → σ2 q n 0 i = σ q n1 0 i) ∧ (∀ q n' p, ¬ ((20 ≤ q ∧ q ≤ 26) ∧ n' = n) → σ2 q n' p = σ q n' p) ∧ ∀ Q : sx_M → Prop, Q σ2 → wp_Ma_copyFrom n n1 σ Q := by
  obtain ⟨s1, e1⟩ : ∃ x, x = sx_u σ 20 n 0 0 (nI m) := ⟨_, rfl⟩
  obtain ⟨s2, e2⟩ : ∃ x, x = sx_r s1 21 n 0 (va_cpy (s1 21 n1 0) (s1 21 n 0) 0 0 m) := ⟨_, rfl⟩
  obtain ⟨s3, e3⟩ : ∃ x, x = sx_r s2 22 n 0 (va_cpy (s2 22 n1 0) (s2 22 n 0) 0 0 m) := ⟨_, rfl⟩
  obtain ⟨s4, e4⟩ : ∃ x, x = sx_r s3 23 n 0 (va_cpy (s3 23 n1 0) (s3 23 n 0) 0 0 m) := ⟨_, rfl⟩
  obtain ⟨s5, e5⟩ : ∃ x, x = sx_r s4 24 n 0 (va_cpy (s4 24 n1 0) (s4 24 n 0) 0 0 m) := ⟨_, rfl⟩
  obtain ⟨s6, e6⟩ : ∃ x, x = sx_r s5 25 n 0 (va_cpy (s5 25 n1 0) (s5 25 n 0) 0 0 m) := ⟨_, rfl⟩
  obtain ⟨s7, e7⟩ : ∃ x, x = sx_r s6 26 n 0 (va_cpy (s6 26 n1 0) (s6 26 n 0) 0 0 m) := ⟨_, rfl⟩
  have cm : (nI m).toNatClampNeg = m := nI_clamp (by omega)
  have o1 : ∀ q n' p, ¬ (q = 20 ∧ n' = n) → s1 q n' p = σ q n' p := fun q n' p h => by rw [e1, sx_u_row _ _ _ _ _ _ (fun z => h ⟨z.1, z.2.1⟩)]
  have o2 : ∀ q n' p, ¬ (q = 21 ∧ n' = n) → s2 q n' p = s1 q n' p := fun q n' p h => by rw [e2, sx_r_ne (fun z => h ⟨z.1, z.2.1⟩)]
  have o3 : ∀ q n' p, ¬ (q = 22 ∧ n' = n) → s3 q n' p = s2 q n' p := fun q n' p h => by rw [e3, sx_r_ne (fun z => h ⟨z.1, z.2.1⟩)]
  have o4 : ∀ q n' p, ¬ (q = 23 ∧ n' = n) → s4 q n' p = s3 q n' p := fun q n' p h => by rw [e4, sx_r_ne (fun z => h ⟨z.1, z.2.1⟩)]
  have o5 : ∀ q n' p, ¬ (q = 24 ∧ n' = n) → s5 q n' p = s4 q n' p := fun q n' p h => by rw [e5, sx_r_ne (fun z => h ⟨z.1, z.2.1⟩)]
  have o6 : ∀ q n' p, ¬ (q = 25 ∧ n' = n) → s6 q n' p = s5 q n' p := fun q n' p h => by rw [e6, sx_r_ne (fun z => h ⟨z.1, z.2.1⟩)]
  have o7 : ∀ q n' p, ¬ (q = 26 ∧ n' = n) → s7 q n' p = s6 q n' p := fun q n' p h => by rw [e7, sx_r_ne (fun z => h ⟨z.1, z.2.1⟩)]
  have n1n : ¬ n1 = n := fun z => hn z.symm
  have z1 : s1 20 n 0 0 = nI m := by rw [e1, sx_u_at]; simp
  have z2 : s2 20 n 0 0 = nI m := by rw [o2 20 n 0 (by omega)]; exact z1
  have z3 : s3 20 n 0 0 = nI m := by rw [o3 20 n 0 (by omega)]; exact z2
  have z4 : s4 20 n 0 0 = nI m := by rw [o4 20 n 0 (by omega)]; exact z3
  have z5 : s5 20 n 0 0 = nI m := by rw [o5 20 n 0 (by omega)]; exact z4
  have z6 : s6 20 n 0 0 = nI m := by rw [o6 20 n 0 (by omega)]; exact z5
  refine ⟨s7, by rw [o7 20 n 0 (by omega)]; exact z6, fun q i hq hi => ?_, fun q n' p h => ?_, fun Q hQ => ?_⟩
  · rcases (show q = 21 ∨ q = 22 ∨ q = 23 ∨ q = 24 ∨ q = 25 ∨ q = 26 by omega) with rfl | rfl | rfl | rfl | rfl | rfl
    · rw [o7 21 n 0 (by omega), o6 21 n 0 (by omega), o5 21 n 0 (by omega), o4 21 n 0 (by omega), o3 21 n 0 (by omega), e2, sx_r_row, cpy_at, if_pos hi, o1 21 n1 0 (by omega)]
    · rw [o7 22 n 0 (by omega), o6 22 n 0 (by omega), o5 22 n 0 (by omega), o4 22 n 0 (by omega), e3, sx_r_row, cpy_at, if_pos hi, o2 22 n1 0 (by omega), o1 22 n1 0 (by omega)]
    · rw [o7 23 n 0 (by omega), o6 23 n 0 (by omega), o5 23 n 0 (by omega), e4, sx_r_row, cpy_at, if_pos hi, o3 23 n1 0 (by omega), o2 23 n1 0 (by omega), o1 23 n1 0 (by omega)]
    · rw [o7 24 n 0 (by omega), o6 24 n 0 (by omega), e5, sx_r_row, cpy_at, if_pos hi, o4 24 n1 0 (by omega), o3 24 n1 0 (by omega), o2 24 n1 0 (by omega), o1 24 n1 0 (by omega)]
    · rw [o7 25 n 0 (by omega), e6, sx_r_row, cpy_at, if_pos hi, o5 25 n1 0 (by omega), o4 25 n1 0 (by omega), o3 25 n1 0 (by omega), o2 25 n1 0 (by omega), o1 25 n1 0 (by omega)]
    · rw [e7, sx_r_row, cpy_at, if_pos hi, o6 26 n1 0 (by omega), o5 26 n1 0 (by omega), o4 26 n1 0 (by omega), o3 26 n1 0 (by omega), o2 26 n1 0 (by omega), o1 26 n1 0 (by omega)]
  · rw [o7 q n' p (by omega), o6 q n' p (by omega), o5 q n' p (by omega), o4 q n' p (by omega), o3 q n' p (by omega), o2 q n' p (by omega), o1 q n' p (by omega)]
  · have c0 : (0 : Int32).toNatClampNeg = 0 := rfl
    have chk : (¬ (0 : Int32) < 0 ∧ ¬ (0 : Int32) < 0 ∧ ¬ nI m < 0 ∧ 0 + m ≤ 200 ∧ 0 + m ≤ 200) := ⟨by decide, by decide, nI_pos (by omega), by omega, by omega⟩
    unfold wp_Ma_copyFrom
    rw [h0, c0]
    intro _ q; rw [← e1] at q; subst q
    rw [z1, cm]
    refine ⟨chk, fun _ q => ?_⟩; rw [← e2] at q; subst q
    rw [z2, cm]
    refine ⟨chk, fun _ q => ?_⟩; rw [← e3] at q; subst q
    rw [z3, cm]
    refine ⟨chk, fun _ q => ?_⟩; rw [← e4] at q; subst q
    rw [z4, cm]
    refine ⟨chk, fun _ q => ?_⟩; rw [← e5] at q; subst q
    rw [z5, cm]
    refine ⟨chk, fun _ q => ?_⟩; rw [← e6] at q; subst q
    rw [z6, cm]
    refine ⟨chk, fun _ q => ?_⟩; rw [← e7] at q; subst q
    exact hQ
/-- the row's messages, laid aside -/
def cpR (ρ : sx_M) : Nat → sx_M
  | 0 => ρ
  | k + 1 => sx_u (cpR ρ k) 69 0 0 k (ρ 68 0 0 (243 + k))
theorem cpR_at (ρ : sx_M) : ∀ k, (∀ q n p, ¬ q = 69 → cpR ρ k q n p = ρ q n p) ∧ ∀ i, i < k → cpR ρ k 69 0 0 i = ρ 68 0 0 (243 + i)
  | 0 => ⟨fun _ _ _ _ => rfl, fun i h => absurd h (Nat.not_lt_zero i)⟩
  | k + 1 => by
    obtain ⟨a, b⟩ := cpR_at ρ k
    refine ⟨fun q n p h => ?_, fun i hi => ?_⟩
    · show sx_u (cpR ρ k) 69 0 0 k (ρ 68 0 0 (243 + k)) q n p = _
      rw [sx_u_row _ _ _ _ _ _ (fun z => h z.1)]; exact a q n p h
    · show sx_u (cpR ρ k) 69 0 0 k (ρ 68 0 0 (243 + k)) 69 0 0 i = _
      rw [sx_u_at]
      by_cases c : i = k
      · subst c; rw [if_pos ⟨rfl, rfl, rfl, rfl⟩]
      · rw [if_neg (fun z => c z.2.2.2)]; exact b i (by omega)
theorem R_cpLoop {M : Nat} (hM : M ≤ 200) {Q : sx_M → sx_L → Prop} (h : ∃ f49, wp_Mo_allCome_b49 Q f49 (nI M) 0 (sx_u (cpR ρ (2 * M)) 68 0 0 7 0) θ) : ∀ (c d : Nat), d + c = 2 * M → ∃ f, wp_Mo_allCome_b10 Q f (nI M) (nI d) (cpR ρ d) θ
  | 0, d, hd => by
    have : d = 2 * M := by omega
    subst this
    refine ⟨1, ?_⟩
    rw [wp_Mo_allCome_b10, if_pos (by rw [show (2 : Int32) * nI M = nI (2 * M) from pk_mul 2 M]; exact nI_le (Nat.le_refl _) (by omega))]
    exact ⟨in_I (n := 7) rfl (by decide) (by decide), fun _ q => by subst q; exact h⟩
  | c + 1, d, hd => by
    obtain ⟨f, hf⟩ := R_cpLoop hM h c (d + 1) (by omega)
    refine ⟨f + 1, ?_⟩
    have e1 : (243 : Int32) + nI d = nI (243 + d) := nI_add 243 d
    rw [wp_Mo_allCome_b10, if_neg (by rw [show (2 : Int32) * nI M = nI (2 * M) from pk_mul 2 M]; exact nI_ge (by omega) (by omega)), e1, nI_clamp (n := 243 + d) (by omega), nI_clamp (n := d) (by omega), nI_1]
    refine ⟨vp_in_nI (by omega) (by decide), vp_in_nI (by omega) (by decide), fun _ q => ?_⟩
    rw [(cpR_at ρ d).1 68 0 0 (by decide)] at q
    subst q
    exact hf
/-- the two loops over the posts -/
theorem S_fireLoop : ∀ (c d m : Nat) (σ ρ : sx_M), d + c = P → pn_T P L v m e σ ρ → pn_A P σ e →
    ∃ m2 σ2 ρ2, pn_T P L v m2 e σ2 ρ2 ∧ pn_f e σ σ2 ∧ pn_g ρ ρ2 ∧ pn_A P σ2 e ∧ (∀ Q : sx_M → Prop, (∃ f110, wp_En_passTick_b110 e Q f110 0 σ2) → ∃ f, wp_En_passTick_b71 e Q f (nI d) σ) ∧ (∀ Q : sx_M → sx_L → Prop, (∃ f47, wp_Mo_tickGoes_b47 Q f47 (σ 14 0 0 6) 1 ρ2 θ) → ∃ f, wp_Mo_tickGoes_b6 Q f (nI d) ρ θ)
  | 0, d, m, σ, ρ, hd, hT, hZ => by
    have h7 := hT.p7
    refine ⟨m, σ, ρ, hT, pn_f.rf, pn_g.rf, hZ, fun Q hQ => ⟨1, ?_⟩, fun Q hQ => ⟨1, ?_⟩⟩
    · rw [wp_En_passTick_b71, hT.2.1.2.1.1, if_pos (nI_le (by omega) (by omega))]; exact hQ
    · rw [wp_Mo_tickGoes_b6, hT.2.1.rP, if_pos (nI_le (by omega) (by omega))]
      exact ⟨hT.2.1.live.1, R_setting hT.2.1 (i := 6) rfl (by decide) hQ⟩
  | c + 1, d, m, σ, ρ, hd, hT, hZ => by
    have h7 := hT.p7
    have hdP : d < P := by omega
    have id7 : vp_in (nI d) 7 := vp_in_nI (by omega) (by decide)
    have cd : (nI d).toNatClampNeg = d := nI_clamp (by omega)
    by_cases c1 : σ 27 e d 0 = 0
    · obtain ⟨m2, σ2, ρ2, T2, f2, g2, Z2, wC, wR⟩ := S_fireLoop c (d + 1) m σ ρ (by omega) hT hZ
      refine ⟨m2, σ2, ρ2, T2, f2, g2, Z2, fun Q hQ => ?_, fun Q hQ => ?_⟩
      · obtain ⟨f, hf⟩ := wC Q hQ
        refine ⟨f + 1, ?_⟩
        rw [wp_En_passTick_b71, hT.2.1.2.1.1, if_neg (nI_ge hdP (by omega)), cd, if_pos c1]
        unfold wp_En_passTick_b102
        rw [nI_1]; exact ⟨id7, hf⟩
      · obtain ⟨f, hf⟩ := wR Q hQ
        refine ⟨f + 1, ?_⟩
        rw [wp_Mo_tickGoes_b6, hT.2.1.rP, if_neg (nI_ge hdP (by omega))]
        refine ⟨hT.2.1.live.1, R_isOn hT.2.2.1 rfl hdP ?_⟩
        rw [if_pos c1]
        unfold wp_Mo_tickGoes_b32
        rw [nI_1]; exact hf
    · obtain ⟨m1, σ1, ρ1, T1, f1, g1, Z1, wC1, wR1⟩ := S_fire (θ := θ) hT hZ hdP
      obtain ⟨m2, σ2, ρ2, T2, f2, g2, Z2, wC, wR⟩ := S_fireLoop c (d + 1) m1 σ1 ρ1 (by omega) T1 Z1
      refine ⟨m2, σ2, ρ2, T2, f1.tr f2, g1.tr g2, Z2, fun Q hQ => ?_, fun Q hQ => ?_⟩
      · obtain ⟨f, hf⟩ := wC Q hQ
        refine ⟨f + 1, ?_⟩
        rw [wp_En_passTick_b71, hT.2.1.2.1.1, if_neg (nI_ge hdP (by omega)), cd, if_neg c1]
        unfold wp_En_passTick_b102
        exact ⟨id7, wC1 _ (by rw [nI_1]; exact hf)⟩
      · obtain ⟨f, hf⟩ := wR Q (by rw [f1.1 14 0 0 (by omega)]; exact hQ)
        refine ⟨f + 1, ?_⟩
        rw [wp_Mo_tickGoes_b6, hT.2.1.rP, if_neg (nI_ge hdP (by omega))]
        refine ⟨hT.2.1.live.1, R_isOn hT.2.2.1 rfl hdP ?_⟩
        rw [if_neg c1]
        unfold wp_Mo_tickGoes_b32
        exact wR1 _ (by rw [nI_1]; exact hf)
theorem S_repLoop : ∀ (c d m : Nat) (σ ρ : sx_M), d + c = P → 1 ≤ d → pn_T P L v m e σ ρ → pn_A P σ e →
    ∃ m2 σ2 ρ2, pn_T P L v m2 e σ2 ρ2 ∧ pn_f e σ σ2 ∧ pn_g ρ ρ2 ∧ pn_A P σ2 e ∧ (∀ Q : sx_M → Prop, Q σ2 → ∃ f, wp_En_passTick_b110 e Q f (nI d) σ) ∧ (∀ Q : sx_M → sx_L → Prop, Q ρ2 θ → ∃ f, wp_Mo_tickGoes_b47 Q f (σ 14 0 0 6) (nI d) ρ θ)
  | 0, d, m, σ, ρ, hd, h1, hT, hZ => by
    have h7 := hT.p7
    have T2 := hT.cnt (f := 0) (by decide)
    have f2 : pn_f e σ (sx_u σ 16 e 0 1 (σ 16 e 0 1 + 1)) := pn_f.rf.u ⟨by omega, rfl⟩
    have j2 : pn_j e σ (sx_u σ 16 e 0 1 (σ 16 e 0 1 + 1)) := ⟨fun q p' h => sx_u_row _ _ _ _ _ _ (by omega), fun p' j _ => by rw [sx_u_row _ _ _ _ _ _ (by omega)]⟩
    refine ⟨m, _, _, T2, f2, pn_g.rf.u rfl, hZ.j f2 j2, fun Q hQ => ⟨1, ?_⟩, fun Q hQ => ⟨1, ?_⟩⟩
    · rw [wp_En_passTick_b110, hT.2.1.2.1.1, if_pos (nI_le (by omega) (by omega))]
      intro _ q; subst q; exact hQ
    · rw [wp_Mo_tickGoes_b47, hT.2.1.rP, if_pos (nI_le (by omega) (by omega))]
      exact ⟨hT.2.1.live.1, in_I (n := 0) rfl (by decide) (by decide), in_I (n := 0) rfl (by decide) (by decide), fun _ q => by subst q; exact hQ⟩
  | c + 1, d, m, σ, ρ, hd, h1, hT, hZ => by
    have h7 := hT.p7
    have hdP : d < P := by omega
    have id7 : vp_in (nI d) 7 := vp_in_nI (by omega) (by decide)
    have cd : (nI d).toNatClampNeg = d := nI_clamp (by omega)
    have po := (hT.2.2.1.2.2.2.2.2.2.2.2.2.2.1 d hdP).2.2.1
    have ep : ρ 68 0 0 (26 + 10 * d + 2) = σ 27 e d 3 := hT.fld hdP (w := 2) (by decide)
    obtain ⟨fr, fr1, fr2, fr3⟩ := hT.2.1.2.2.2.2.1.2.2.1
    have i0 : vp_in 0 643 := in_I (n := 0) rfl (by decide) (by decide)
    have fpos : ¬ σ 14 0 0 6 ≤ 0 := by rw [fr3]; exact nI_nle (by omega) (by omega)
    have fne : ¬ σ 14 0 0 6 = 0 := by rw [fr3]; exact nI_ne0 (by omega) (by omega)
    have due : ∀ (Q : Int32 → sx_M → Prop), Q (if (σ 16 e 0 1) - (σ 16 e 0 1) / (σ 14 0 0 6) * (σ 14 0 0 6) = nI d - nI d / (σ 14 0 0 6) * (σ 14 0 0 6) then 1 else 0) σ → wp_En_isDueToReport e (nI d) σ Q := by
      intro Q hQ
      unfold wp_En_isDueToReport wp_En_isDueToReport_b34 wp_En_isDueToReport_b35
      rw [show (6 : Int32).toNatClampNeg = 6 from rfl, if_neg fpos]
      refine ⟨in_I (n := 6) rfl (by decide) (by decide), fne, fne, ?_⟩
      by_cases c9 : (σ 16 e 0 1) - (σ 16 e 0 1) / (σ 14 0 0 6) * (σ 14 0 0 6) = nI d - nI d / (σ 14 0 0 6) * (σ 14 0 0 6)
      · rw [if_pos c9] at hQ ⊢; exact ⟨Or.inr rfl, hQ⟩
      · rw [if_neg c9] at hQ ⊢; exact ⟨Or.inl rfl, hQ⟩
    -- the step
    have step : ∃ m1 σ1 ρ1, pn_T P L v m1 e σ1 ρ1 ∧ pn_f e σ σ1 ∧ pn_g ρ ρ1 ∧ pn_A P σ1 e ∧ (∀ (F : Int32 → sx_M → Prop) (Q : sx_M → Prop), F (nI d + 1) σ1 → (if σ 27 e d 0 = 0 then wp_En_passTick_b160 e F Q (nI d) σ else (if σ 27 e d 3 = -2 then wp_En_passTick_b160 e F Q (nI d) σ else wp_En_isDueToReport e (nI d) σ (fun r6 σ6 => if r6 = 0 then wp_En_passTick_b160 e F Q (nI d) σ6 else wp_En_report e (nI d) σ6 (fun σ8 => wp_En_passTick_b160 e F Q (nI d) σ8))))) ∧ (∀ (F : Int32 → Int32 → sx_M → sx_L → Prop) (Q : sx_M → sx_L → Prop), F (σ 14 0 0 6) (nI d + 1) ρ1 θ → wp_Mo_isOn (nI d) ρ θ (fun r6 σ6 τ6 => if r6 = 0 then wp_Mo_tickGoes_b96 F Q (σ 14 0 0 6) (nI d) σ6 τ6 else wp_Mo_of (nI d) 2 σ6 τ6 (fun r8 σ8 τ8 => if r8 < 0 then wp_Mo_tickGoes_b96 F Q (σ 14 0 0 6) (nI d) σ8 τ8 else vp_in 0 643 ∧ (¬ (σ 14 0 0 6) = 0 ∧ (¬ (σ 14 0 0 6) = 0 ∧ (if (σ8 68 0 0 (0 : Int32).toNatClampNeg) - (σ8 68 0 0 (0 : Int32).toNatClampNeg) / (σ 14 0 0 6) * (σ 14 0 0 6) = nI d - nI d / (σ 14 0 0 6) * (σ 14 0 0 6) then wp_Mo_reports (nI d) σ8 τ8 (fun σ14 τ14 => wp_Mo_tickGoes_b96 F Q (σ 14 0 0 6) (nI d) σ14 τ14) else wp_Mo_tickGoes_b96 F Q (σ 14 0 0 6) (nI d) σ8 τ8)))))) := by
      by_cases c1 : σ 27 e d 0 = 0
      · refine ⟨m, σ, ρ, hT, pn_f.rf, pn_g.rf, hZ, fun F Q hQ => ?_, fun F Q hQ => ?_⟩
        · rw [if_pos c1]; unfold wp_En_passTick_b160; exact hQ
        · refine R_isOn hT.2.2.1 rfl hdP ?_
          rw [if_pos c1]; unfold wp_Mo_tickGoes_b96; exact hQ
      · by_cases c2 : σ 27 e d 3 = -2
        · refine ⟨m, σ, ρ, hT, pn_f.rf, pn_g.rf, hZ, fun F Q hQ => ?_, fun F Q hQ => ?_⟩
          · rw [if_neg c1, if_pos c2]; unfold wp_En_passTick_b160; exact hQ
          · refine R_isOn hT.2.2.1 rfl hdP ?_
            rw [if_neg c1]
            refine R_of (i := 2) rfl rfl (by omega) (by decide) ?_
            rw [ep, if_pos ((po.neg h7).mpr c2)]; unfold wp_Mo_tickGoes_b96; exact hQ
        · by_cases c3 : (σ 16 e 0 1) - (σ 16 e 0 1) / (σ 14 0 0 6) * (σ 14 0 0 6) = nI d - nI d / (σ 14 0 0 6) * (σ 14 0 0 6)
          · obtain ⟨q, hq, eq⟩ := po.resolve_left c2
            obtain ⟨m1, σ1, ρ1, T1, f1, g1, k1, wC1, wR1⟩ := S_report (θ := θ) hT hdP hq eq
            refine ⟨m1, σ1, ρ1, T1, f1, g1, hZ.j f1 ⟨k1.1, fun p' j hj => k1.2.1 p' j (by omega)⟩, fun F Q hQ => ?_, fun F Q hQ => ?_⟩
            · rw [if_neg c1, if_neg c2]
              refine due _ ?_
              rw [if_pos c3, if_neg (by decide)]
              refine wC1 _ ?_
              unfold wp_En_passTick_b160; exact hQ
            · refine R_isOn hT.2.2.1 rfl hdP ?_
              rw [if_neg c1]
              refine R_of (i := 2) rfl rfl (by omega) (by decide) ?_
              rw [ep, if_neg (fun z => c2 ((po.neg h7).mp z)), hT.tick, if_pos c3]
              refine ⟨i0, fne, fne, wR1 _ ?_⟩
              unfold wp_Mo_tickGoes_b96; exact hQ
          · refine ⟨m, σ, ρ, hT, pn_f.rf, pn_g.rf, hZ, fun F Q hQ => ?_, fun F Q hQ => ?_⟩
            · rw [if_neg c1, if_neg c2]
              refine due _ ?_
              rw [if_neg c3, if_pos rfl]
              unfold wp_En_passTick_b160; exact hQ
            · refine R_isOn hT.2.2.1 rfl hdP ?_
              rw [if_neg c1]
              refine R_of (i := 2) rfl rfl (by omega) (by decide) ?_
              rw [ep, if_neg (fun z => c2 ((po.neg h7).mp z)), hT.tick, if_neg c3]
              refine ⟨i0, fne, fne, ?_⟩
              unfold wp_Mo_tickGoes_b96; exact hQ
    obtain ⟨m1, σ1, ρ1, T1, f1, g1, Z1, wC1, wR1⟩ := step
    obtain ⟨m2, σ2, ρ2, T2, f2, g2, Z2, wC, wR⟩ := S_repLoop c (d + 1) m1 σ1 ρ1 (by omega) (by omega) T1 Z1
    refine ⟨m2, σ2, ρ2, T2, f1.tr f2, g1.tr g2, Z2, fun Q hQ => ?_, fun Q hQ => ?_⟩
    · obtain ⟨f, hf⟩ := wC Q hQ
      refine ⟨f + 1, ?_⟩
      rw [wp_En_passTick_b110, hT.2.1.2.1.1, if_neg (nI_ge hdP (by omega)), cd]
      exact ⟨id7, wC1 (wp_En_passTick_b110 e Q f) Q (by rw [nI_1]; exact hf)⟩
    · obtain ⟨f, hf⟩ := wR Q hQ
      rw [f1.1 14 0 0 (by omega)] at hf
      refine ⟨f + 1, ?_⟩
      rw [wp_Mo_tickGoes_b47, hT.2.1.rP, if_neg (nI_ge hdP (by omega))]
      exact ⟨hT.2.1.live.1, wR1 (wp_Mo_tickGoes_b47 Q f) Q (by rw [nI_1]; exact hf)⟩
/-- what a tick leaves alone -/
def pn_F (e : Nat) (σ σ2 : sx_M) : Prop := (∀ k n p, ¬ ((16 ≤ k ∧ k ≤ 30) ∧ (n = e ∨ n = 25 + e)) → σ2 k n p = σ k n p) ∧ pn_y e σ σ2
def pn_G (ρ ρ2 : sx_M) : Prop := ∀ k n p, ¬ (k = 68 ∨ k = 69) → ρ2 k n p = ρ k n p
theorem pn_F.rf : pn_F e σ σ := ⟨fun _ _ _ _ => rfl, pn_y.rf⟩
theorem pn_G.rf : pn_G ρ ρ := fun _ _ _ _ => rfl
theorem pn_F.tr {a b c : sx_M} (h : pn_F e a b) (h2 : pn_F e b c) : pn_F e a c := ⟨fun k n p q => (h2.1 k n p q).trans (h.1 k n p q), h.2.tr h2.2⟩
theorem pn_G.tr {a b c : sx_M} (h : pn_G a b) (h2 : pn_G b c) : pn_G a c := fun k n p q => (h2 k n p q).trans (h k n p q)
theorem pn_f.F (h : pn_f e σ σ2) : pn_F e σ σ2 := ⟨fun k n p q => h.1 k n p (by omega), h.2⟩
theorem pn_g.G {ρ2 : sx_M} (h : pn_g ρ ρ2) : pn_G ρ ρ2 := fun k n p q => h k n p (by omega)
theorem pn_P.mvF {ρ2 : sx_M} (h : pn_P P L v σ ρ) (hf : pn_F e σ σ2) (hg : pn_G ρ ρ2) : pn_P P L v σ2 ρ2 := by
  have c : ∀ k n p, k < 16 → σ2 k n p = σ k n p := fun k n p hk => hf.1 k n p (by omega)
  have d : ∀ k n p, k < 68 → ρ2 k n p = ρ k n p := fun k n p hk => hg k n p (by omega)
  unfold pn_P
  simp only [c 8 _ _ (by decide), c 9 _ _ (by decide), c 10 _ _ (by decide), c 11 _ _ (by decide), c 13 _ _ (by decide), c 14 _ _ (by decide), d 50 _ _ (by decide), d 58 _ _ (by decide), d 59 _ _ (by decide), d 61 _ _ (by decide), d 62 _ _ (by decide), d 63 _ _ (by decide), d 64 _ _ (by decide), d 65 _ _ (by decide), d 66 _ _ (by decide)]
  exact h
/-- A TICK -/
theorem S_tick (hT : pn_T P L v m e σ ρ) (hZ : pn_A P σ e) :
    ∃ m2 σ2 ρ2, pn_T P L v m2 e σ2 ρ2 ∧ pn_F e σ σ2 ∧ pn_G ρ ρ2 ∧ pn_A P σ2 e ∧ (∀ Q : sx_M → Prop, Q σ2 → wp_En_passTick e σ Q) ∧ (∀ Q : sx_M → sx_L → Prop, Q ρ2 θ → wp_Mo_tickGoes ρ θ Q) := by
  obtain ⟨he, hP, hN, hs⟩ := id hT
  have h7 := hT.p7
  obtain ⟨hm, hmr, hmc⟩ := hN.2.2.1
  rw [Nat.zero_add] at hmr
  obtain ⟨σ1, a1, a2, a3, wC1⟩ := C_mail (n := 25 + e) (n1 := e) (by omega) hm hmc
  obtain ⟨σ0, es⟩ : ∃ x, x = sx_u σ1 20 e 0 0 0 := ⟨_, rfl⟩
  obtain ⟨ρ0, er⟩ : ∃ x, x = sx_u (cpR ρ (2 * m)) 68 0 0 7 0 := ⟨_, rfl⟩
  have b3 : ∀ q n' p, ¬ (((20 ≤ q ∧ q ≤ 26) ∧ n' = 25 + e) ∨ (q = 20 ∧ n' = e)) → σ0 q n' p = σ q n' p := fun q n' p h => by
    rw [es, sx_u_row _ _ _ _ _ _ (by omega)]; exact a3 q n' p (by omega)
  obtain ⟨k1, k2⟩ := cpR_at ρ (2 * m)
  have r3 : ∀ q n p, ¬ (q = 68 ∨ q = 69) → ρ0 q n p = ρ q n p := fun q n p h => by
    rw [er, sx_u_row _ _ _ _ _ _ (by omega)]; exact k1 q n p (by omega)
  have r4 : ∀ j, ¬ j = 7 → ρ0 68 0 0 j = ρ 68 0 0 j := fun j h => by
    rw [er, sx_u_at, if_neg (by omega), k1 68 0 0 (by decide)]
  have F1 : pn_F e σ σ0 := ⟨fun k n p h => b3 k n p (by omega), fun q p h => b3 q e p (by omega), fun p => by rw [b3 27 e p (by omega)]⟩
  have G1 : pn_G ρ ρ0 := r3
  have N1 : pn_N P L 0 σ0 e ρ0 68 0 := by
    refine hN.put (fun q p hq => b3 q e p (by omega)) (fun j h1 h2 => r4 j (by omega)) (fun f hf => ?_) ⟨by omega, ?_, ?_⟩ (fun i hi => absurd hi (Nat.not_lt_zero i))
    · rw [r4 _ (by omega), b3 16 e 0 (by omega)]; exact hN.2.1 f hf
    · rw [er, sx_u_at]; simp; rfl
    · rw [es, sx_u_at]; simp; rfl
  have T1 : pn_T P L v 0 e σ0 ρ0 := ⟨he, hP.mvF F1 G1, N1, by rw [b3 31 e 0 (by omega), r3 50 0 0 (by omega)]; exact hs⟩
  have Z1 : pn_A P σ0 e := by
    intro p p0 pP pX pon pr
    have c16 : ∀ k n p, k < 16 → σ0 k n p = σ k n p := fun k n p hk => b3 k n p (by omega)
    have r27 : ∀ p, σ0 27 e p = σ 27 e p := fun p => b3 27 e p (by omega)
    rw [r27] at pon pr
    exact pn_zz_c (fun k => pn_of_c c16 (fun q p' h => b3 q e p' (by omega)) (fun p' => by rw [r27]) p k) (fun j _ _ => by rw [r27]) (fun j => by rw [c16 14 0 0 (by decide)]) (hZ p p0 pP pX pon pr)
  have M1 : pn_M P m (25 + e) σ0 ρ0 := by
    refine ⟨hm, ?_, fun i hi => ?_⟩
    · rw [es, sx_u_row _ _ _ _ _ _ (by omega)]; exact a1
    · have g : ∀ q, 21 ≤ q ∧ q ≤ 26 → σ0 q (25 + e) 0 i = σ q e 0 i := fun q hq => by rw [es, sx_u_row _ _ _ _ _ _ (by omega)]; exact a2 q i hq hi
      have g2 : ∀ j, j < 2 * m → ρ0 69 0 0 j = ρ 68 0 0 (243 + j) := fun j hj => by rw [er, sx_u_row _ _ _ _ _ _ (by omega)]; exact k2 j hj
      rw [g 21 (by decide), g 22 (by decide), g 23 (by decide), g 24 (by decide), g 25 (by decide), g 26 (by decide), g2 _ (by omega), g2 _ (by omega)]
      have := hN.2.2.2.2.2.2.2.2.2.1 i hi
      rw [Nat.zero_add] at this
      exact this
  obtain ⟨m2, σ2, ρ2, T2, f2, g2, Z2, wC2, wR2⟩ := S_msgLoop (θ := θ) m 0 0 σ0 ρ0 (by omega) T1 Z1 M1
  obtain ⟨m3, σ3, ρ3, T3, f3, g3, Z3, wC3, wR3⟩ := S_fireLoop (θ := θ) P 0 m2 σ2 ρ2 (by omega) T2 Z2
  have rep : ∃ m4 σ4 ρ4, pn_T P L v m4 e σ4 ρ4 ∧ pn_f e σ3 σ4 ∧ pn_g ρ3 ρ4 ∧ pn_A P σ4 e ∧ (∀ Q : sx_M → Prop, Q σ4 → ∃ f, wp_En_passTick_b110 e Q f 0 σ3) ∧ (∀ Q : sx_M → sx_L → Prop, Q ρ4 θ → ∃ f, wp_Mo_tickGoes_b47 Q f (σ3 14 0 0 6) 1 ρ3 θ) := by
    by_cases hP0 : P = 0
    · have T4 := T3.cnt (f := 0) (by decide)
      have f4 : pn_f e σ3 (sx_u σ3 16 e 0 1 (σ3 16 e 0 1 + 1)) := pn_f.rf.u ⟨by omega, rfl⟩
      have j4 : pn_j e σ3 (sx_u σ3 16 e 0 1 (σ3 16 e 0 1 + 1)) := ⟨fun q p' h => sx_u_row _ _ _ _ _ _ (by omega), fun p' j _ => by rw [sx_u_row _ _ _ _ _ _ (by omega)]⟩
      refine ⟨m3, _, _, T4, f4, pn_g.rf.u rfl, Z3.j f4 j4, fun Q hQ => ⟨1, ?_⟩, fun Q hQ => ⟨1, ?_⟩⟩
      · rw [wp_En_passTick_b110, T3.2.1.2.1.1, if_pos (show nI P ≤ 0 by rw [hP0]; decide)]
        intro _ q; subst q; exact hQ
      · rw [wp_Mo_tickGoes_b47, T3.2.1.rP, if_pos (show nI P ≤ 1 by rw [hP0]; decide)]
        exact ⟨T3.2.1.live.1, in_I (n := 0) rfl (by decide) (by decide), in_I (n := 0) rfl (by decide) (by decide), fun _ q => by subst q; exact hQ⟩
    · obtain ⟨m4, σ4, ρ4, T4, f4, g4, Z4, wC4, wR4⟩ := S_repLoop (θ := θ) (P - 1) 1 m3 σ3 ρ3 (by omega) (Nat.le_refl _) T3 Z3
      refine ⟨m4, σ4, ρ4, T4, f4, g4, Z4, fun Q hQ => ?_, fun Q hQ => wR4 Q hQ⟩
      obtain ⟨f, hf⟩ := wC4 Q hQ
      refine ⟨f + 1, ?_⟩
      have root := T3.2.2.1.2.2.2.2.2.2.2.2.2.2.2.2 (by omega)
      rw [wp_En_passTick_b110, T3.2.1.2.1.1, if_neg (show ¬ nI P ≤ 0 from nI_nle (by omega) (by omega)), show (0 : Int32).toNatClampNeg = 0 from rfl]
      unfold wp_En_passTick_b160
      refine ⟨in_I (n := 0) rfl (by decide) (by decide), ?_⟩
      by_cases c1 : σ3 27 e 0 0 = 0
      · rw [if_pos c1]; exact hf
      · rw [if_neg c1, if_pos root]; exact hf
  obtain ⟨m4, σ4, ρ4, T4, f4, g4, Z4, wC4, wR4⟩ := rep
  refine ⟨m4, σ4, ρ4, T4, F1.tr ((f2.tr f3).tr f4).F, G1.tr ((g2.tr g3).tr g4).G, Z4, fun Q hQ => ?_, fun Q hQ => ?_⟩
  · unfold wp_En_passTick
    refine wC1 _ ?_
    intro _ q
    rw [← es] at q
    subst q
    exact wC2 Q (wC3 Q (wC4 Q hQ))
  · unfold wp_Mo_tickGoes wp_Mo_allCome
    refine ⟨in_I (n := 7) rfl (by decide) (by decide), ?_⟩
    rw [show (7 : Int32).toNatClampNeg = 7 from rfl, hmr]
    refine R_cpLoop hm ?_ (2 * m) 0 (by omega)
    rw [← er]
    refine wR2 _ ?_
    refine wR3 Q ?_
    have := wR4 Q hQ
    rw [f3.1 14 0 0 (by omega)] at this
    exact this
/-- n ticks -/
theorem S_ticks : ∀ (c i m : Nat) (σ ρ : sx_M), pn_T P L v m e σ ρ → pn_A P σ e →
    ∃ m2 σ2 ρ2, pn_T P L v m2 e σ2 ρ2 ∧ pn_F e σ σ2 ∧ pn_G ρ ρ2 ∧ pn_A P σ2 e ∧ (∀ (X : Nat → Int32 → sx_M → Prop) (N : Int32), (∀ f i σ, (¬ N ≤ i → wp_En_passTick e σ (fun σ9 => X f (i + 1) σ9) → X (f + 1) i σ)) → (∀ j, i ≤ j → j < i + c → ¬ N ≤ nI j) → (∃ f, X f (nI (i + c)) σ2) → ∃ f, X f (nI i) σ) ∧ (∀ (X : Nat → Int32 → sx_M → sx_L → Prop) (N : Int32), (∀ f i ρ θ, (¬ N ≤ i → wp_Mo_tickGoes ρ θ (fun ρ9 θ9 => X f (i + 1) ρ9 θ9) → X (f + 1) i ρ θ)) → (∀ j, i ≤ j → j < i + c → ¬ N ≤ nI j) → (∃ f, X f (nI (i + c)) ρ2 θ) → ∃ f, X f (nI i) ρ θ)
  | 0, i, m, σ, ρ, hT, hZ => ⟨m, σ, ρ, hT, pn_F.rf, pn_G.rf, hZ, fun _ _ _ _ h => h, fun _ _ _ _ h => h⟩
  | c + 1, i, m, σ, ρ, hT, hZ => by
    obtain ⟨m1, σ1, ρ1, T1, f1, g1, Z1, wC1, wR1⟩ := S_tick (θ := θ) hT hZ
    obtain ⟨m2, σ2, ρ2, T2, f2, g2, Z2, wC, wR⟩ := S_ticks c (i + 1) m1 σ1 ρ1 T1 Z1
    refine ⟨m2, σ2, ρ2, T2, f1.tr f2, g1.tr g2, Z2, fun X N hX hN hQ => ?_, fun X N hX hN hQ => ?_⟩
    · obtain ⟨f, hf⟩ := wC X N hX (fun j h1 h2 => hN j (by omega) (by omega)) (by rw [show i + 1 + c = i + (c + 1) by omega]; exact hQ)
      exact ⟨f + 1, hX f _ _ (hN i (Nat.le_refl _) (by omega)) (wC1 _ (by rw [nI_1]; exact hf))⟩
    · obtain ⟨f, hf⟩ := wR X N hX (fun j h1 h2 => hN j (by omega) (by omega)) (by rw [show i + 1 + c = i + (c + 1) by omega]; exact hQ)
      exact ⟨f + 1, hX f _ _ _ (hN i (Nat.le_refl _) (by omega)) (wR1 _ (by rw [nI_1]; exact hf))⟩
end TICK2
