section WAYSD
variable {P L v m n e : Nat} {σ σ2 ρ ρ2 : sx_M} {θ : sx_L}
/-- promise 30 -/
theorem M_deep (h : pn_I σ ρ θ) : pn_ok (wp_St_deep σ) (wp_Mo_deep ρ θ) := by
  obtain ⟨P, L, v, m, hP, hN, hA, hW⟩ := id h
  have h7 := hP.1.1
  obtain ⟨ρ1, T1, q1, w1⟩ := R_copies hP hN hW
  obtain ⟨dp, hdp⟩ : ∃ g : Nat → Int32, ∀ d, g d = pn_dp σ 0 7 0 (nI d) := ⟨_, fun _ => rfl⟩
  obtain ⟨g, hg⟩ : ∃ g : Nat → Int32 → Int32, g = fun d a => if a < (if dp d = -1 then 0 else dp d) then (if dp d = -1 then 0 else dp d) else a := ⟨_, rfl⟩
  obtain ⟨k, hk⟩ : ∃ g : Nat → Int32 → Int32, g = fun d a => if dp d ≤ a then a else dp d := ⟨_, rfl⟩
  have gk : pn_lp g P 0 0 = pn_lp k P 0 0 := by
    refine pn_lp_eq (N := P) (fun a => 0 ≤ a) (fun d a hd ha => ?_) P 0 0 (by omega) (by decide)
    have vd : dp d = -1 ∨ ∃ i, i < 7 ∧ dp d = nI i := by rw [hdp d]; exact pn_dp_v σ 0 7 0 (nI d)
    rw [hg, hk]
    show (if a < (if dp d = -1 then 0 else dp d) then (if dp d = -1 then 0 else dp d) else a) = (if dp d ≤ a then a else dp d) ∧ 0 ≤ (if dp d ≤ a then a else dp d)
    rcases vd with z | ⟨i, hi, z⟩
    · rw [z, if_pos rfl, if_neg (Int32.not_lt.mpr ha), if_pos (Int32.le_trans (by decide) ha)]; exact ⟨rfl, ha⟩
    · rw [z, if_neg (pn_m1 (by omega))]
      by_cases c : nI i ≤ a
      · rw [if_pos c, if_neg (Int32.not_lt.mpr c)]; exact ⟨rfl, ha⟩
      · rw [if_neg c, if_pos (Int32.not_le.mp c)]; exact ⟨rfl, nI_pos' (by omega)⟩
  refine ⟨pn_lp g P 0 0, σ, ρ1, θ, h.look pn_qc.rf q1, fun Q hQ => ?_, fun Q hQ => ?_⟩
  · unfold wp_St_deep
    refine pn_lp_go (X := fun f a i => wp_St_deep_b4 Q f a i σ) (N := P) (g := g) (fun f d a hd hx => ?_) P 0 0 (by omega) ⟨1, ?_⟩
    · show wp_St_deep_b4 Q (f + 1) a (nI d) σ
      rw [wp_St_deep_b4, hP.2.1.1, if_neg (nI_ge hd (by omega))]
      unfold wp_Ne_depth
      refine C_dpLoop h7 hP.2.1.1 hN.par 7 0 (nI d) rfl (Or.inr ⟨d, hd, rfl⟩) ?_
      rw [nI_1, ← hdp d]
      rw [hg] at hx
      exact hx
    · show wp_St_deep_b4 Q 1 _ (nI P) σ
      rw [wp_St_deep_b4, hP.2.1.1, if_pos (nI_le (Nat.le_refl _) (by omega))]; exact hQ
  · rw [gk] at hQ
    unfold wp_Mo_deep
    refine w1 _ ?_
    refine pn_lp_go (X := fun f a i => wp_Mo_deep_b8 Q f a i ρ1 θ) (N := P) (g := k) (fun f d a hd hx => ?_) P 0 0 (by omega) ⟨1, ?_⟩
    · show wp_Mo_deep_b8 Q (f + 1) a (nI d) ρ1 θ
      rw [wp_Mo_deep_b8, T1.2.1.rP, if_neg (nI_ge hd (by omega))]
      unfold wp_Mo_above wp_Mo_deep_b34
      refine ⟨T1.2.1.live.1, R_dpLoop T1 7 0 d rfl hd ?_⟩
      rw [nI_1, ← hdp d]
      rw [hk] at hx
      by_cases c : dp d ≤ a
      · simp only [if_pos c] at hx; rw [if_pos c]; exact hx
      · simp only [if_neg c] at hx; rw [if_neg c]; exact hx
    · show wp_Mo_deep_b8 Q 1 _ (nI P) ρ1 θ
      rw [wp_Mo_deep_b8, T1.2.1.rP, if_pos (nI_le (Nat.le_refl _) (by omega))]; exact ⟨T1.2.1.live.1, hQ⟩
end WAYSD
