/-- the word of a message as the row packs it -/
def pn_w (so fr to ab ov ve : Int32) : Int32 := (((((so ||| (fr <<< (2 &&& 31))) ||| (to <<< (5 &&& 31))) ||| (ab <<< (8 &&& 31))) ||| (ov <<< (11 &&& 31))) ||| (ve <<< (16 &&& 31)))
theorem pn_w0 : ∀ f, f < 7 → ∀ u, u < 100 → pn_w 0 (nI f) 0 0 0 (nI u) = nI (4 * f + 65536 * u) := by decide +kernel
theorem pn_w1 : ∀ s, s < 3 → ∀ f, f < 7 → ∀ t, t < 7 → ∀ d, d < 7 → ∀ j, j < 12 → pn_w (nI s) (nI f) (nI t) (nI d) (nI (j + 1)) 0 = nI (s + 4 * f + 32 * t + 256 * d + 2048 * (j + 1)) := by decide +kernel
section PUT
variable {P L v m e : Nat} {σ ρ : sx_M} {θ : sx_L}
theorem pn_so {P : Nat} {so fr to ab va li w w2 : Int32} (h : pn_m P so fr to ab va li w w2) : so = 0 ∨ so = 1 ∨ so = 2 := by
  obtain ⟨-, f, -, -, h⟩ := h
  rcases h with ⟨h, -⟩ | ⟨s, t, d, j, h1, h2, -, -, -, h, -⟩
  · exact Or.inl h
  · rcases (show s = 1 ∨ s = 2 by omega) with rfl | rfl
    · exact Or.inr (Or.inl h)
    · exact Or.inr (Or.inr h)
theorem S_put (hT : pn_T P L v m e σ ρ) {so fr to ab va li fr2 to2 ab2 ov ve : Int32} (hm : pn_m P so fr to ab va li (pn_w so fr2 to2 ab2 ov ve) va) :
    ∃ m2 σ2 ρ2, pn_T P L v m2 e σ2 ρ2 ∧ pn_f e σ σ2 ∧ pn_g ρ ρ2 ∧ (∀ q p, (q = 18 ∨ q = 19 ∨ 27 ≤ q) → σ2 q e p = σ q e p) ∧ σ2 16 e 0 1 = σ 16 e 0 1 ∧ (∀ Q : sx_M → Prop, Q σ2 → wp_En_put e so fr to ab va li σ Q) ∧ (∀ Q : sx_M → sx_L → Prop, Q ρ2 θ → wp_Mo_puts so fr2 to2 ab2 ov ve va ρ θ Q) := by
  obtain ⟨he, hP, hN, hs⟩ := id hT
  obtain ⟨a0, a1, ⟨hm2, a2r, a2c⟩, -⟩ := id hN
  have e7 : ρ 68 0 0 (7 : Int32).toNatClampNeg = nI m := by rwa [Nat.zero_add] at a2r
  have i7 : vp_in 7 643 := in_I (n := 7) rfl (by decide) (by decide)
  by_cases hf : m = 200
  · subst hf
    refine ⟨200, σ, ρ, hT, pn_f.rf, pn_g.rf, fun _ _ _ => rfl, rfl, fun Q hQ => ?_, fun Q hQ => ?_⟩
    · unfold wp_En_put
      rw [a2c, if_neg (by decide)]
      exact hQ
    · unfold wp_Mo_puts
      rw [e7, if_pos (by decide)]
      exact ⟨i7, hQ⟩
  · have hl : m < 200 := by omega
    have im : vp_in (nI m) 200 := vp_in_nI hl (by decide)
    have cm : (nI m).toNatClampNeg = m := nI_clamp (by omega)
    have e243 : (243 : Int32) + (2 * nI m) = nI (243 + 2 * m) := by show nI 243 + nI 2 * nI m = _; rw [pk_mul, nI_add]
    have e244 : ((243 : Int32) + (2 * nI m)) + 1 = nI (243 + 2 * m + 1) := by rw [e243]; exact nI_1 _
    have hso := pn_so hm
    obtain ⟨s, hs3, rfl⟩ : ∃ s, s < 3 ∧ so = nI s := by
      rcases hso with h | h | h
      · exact ⟨0, by decide, h⟩
      · exact ⟨1, by decide, h⟩
      · exact ⟨2, by decide, h⟩
    have e1s : (1 : Int32) + nI s = nI (1 + s) := nI_add 1 s
    have i1s : vp_in (1 + nI s) 643 := in_I e1s (by omega) (by decide)
    have c1s : ((1 : Int32) + nI s).toNatClampNeg = 1 + s := cl_I e1s (by omega)
    -- the memories
    obtain ⟨σa, ea⟩ : ∃ x, x = sx_u (sx_u (sx_u (sx_u (sx_u (sx_u (sx_u σ 21 e 0 m (nI s)) 22 e 0 m fr) 23 e 0 m to) 24 e 0 m ab) 25 e 0 m va) 26 e 0 m li) 20 e 0 0 (nI m + 1) := ⟨_, rfl⟩
    obtain ⟨σ2, e2⟩ : ∃ x, x = sx_u (sx_u (sx_u σa 16 e 0 2 (σa 16 e 0 2 + (if s = 0 then 1 else 0))) 16 e 0 3 (σa 16 e 0 3 + (if s = 1 then 1 else 0))) 16 e 0 4 (σa 16 e 0 4 + (if s = 2 then 1 else 0)) := ⟨_, rfl⟩
    obtain ⟨ρa, ra⟩ : ∃ x, x = sx_u (sx_u (sx_u ρ 68 0 0 (243 + 2 * m) (pn_w (nI s) fr2 to2 ab2 ov ve)) 68 0 0 (243 + 2 * m + 1) va) 68 0 0 7 (nI m + 1) := ⟨_, rfl⟩
    obtain ⟨ρ2, r2⟩ : ∃ x, x = sx_u ρa 68 0 0 (1 + s) (ρa 68 0 0 (1 + s) + 1) := ⟨_, rfl⟩
    have f1 : pn_f e σ σ2 := by
      rw [e2, ea]
      refine pn_f.u (pn_f.u (pn_f.u (pn_f.u (pn_f.u (pn_f.u (pn_f.u (pn_f.u (pn_f.u (pn_f.u pn_f.rf ?_) ?_) ?_) ?_) ?_) ?_) ?_) ?_) ?_) ?_ <;> exact ⟨by omega, rfl⟩
    have g1 : pn_g ρ ρ2 := by
      rw [r2, ra]
      refine pn_g.u (pn_g.u (pn_g.u (pn_g.u pn_g.rf ?_) ?_) ?_) ?_ <;> rfl
    have k27 : ∀ q p, (q = 18 ∨ q = 19 ∨ 27 ≤ q) → σ2 q e p = σ q e p := by
      intro q p hq
      rw [e2, ea]
      repeat rw [sx_u_row _ _ _ _ _ _ (by omega)]
    have k16 : ∀ j, σ2 16 e 0 j = if j = 2 then σ 16 e 0 2 + (if s = 0 then 1 else 0) else if j = 3 then σ 16 e 0 3 + (if s = 1 then 1 else 0) else if j = 4 then σ 16 e 0 4 + (if s = 2 then 1 else 0) else σ 16 e 0 j := by
      intro j
      rw [e2, ea]
      simp only [sx_u_at]
      by_cases j2 : j = 2
      · subst j2; simp
      · by_cases j3 : j = 3
        · subst j3; simp
        · by_cases j4 : j = 4
          · subst j4; simp
          · simp [j2, j3, j4]
    have kR : ∀ j, ρ2 68 0 0 j = if j = 1 + s then ρ 68 0 0 (1 + s) + 1 else if j = 7 then nI m + 1 else if j = 243 + 2 * m + 1 then va else if j = 243 + 2 * m then pn_w (nI s) fr2 to2 ab2 ov ve else ρ 68 0 0 j := by
      intro j
      rw [r2, ra]
      simp only [sx_u_at]
      by_cases j1 : j = 1 + s
      · subst j1
        simp [show ¬ 1 + s = 7 by omega, show ¬ 1 + s = 243 + 2 * m + 1 by omega, show ¬ 1 + s = 243 + 2 * m by omega]
      · simp [j1]
    have kM : ∀ q i, q = 21 ∨ q = 22 ∨ q = 23 ∨ q = 24 ∨ q = 25 ∨ q = 26 → i ≠ m → σ2 q e 0 i = σ q e 0 i := by
      intro q i hq hi
      rw [e2, ea]
      simp only [sx_u_at]
      rcases hq with rfl | rfl | rfl | rfl | rfl | rfl <;> simp [hi]
    have hN2 : pn_N P L (m + 1) σ2 e ρ2 68 0 := by
      refine hN.put (fun q p hq => ?_) (fun j h1 h2 => ?_) (fun f hf => ?_) ⟨by omega, ?_, ?_⟩ (fun i hi => ?_)
      · rw [e2, ea]
        repeat rw [sx_u_row _ _ _ _ _ _ (by omega)]
      · rw [kR j, if_neg (by omega), if_neg (by omega), if_neg (by omega), if_neg (by omega)]
      · have := a1 f hf
        rw [Nat.zero_add] at this ⊢
        rw [kR f, k16 (f + 1)]
        rcases (show f = 0 ∨ f = 1 ∨ f = 2 ∨ f = 3 ∨ 4 ≤ f by omega) with rfl | rfl | rfl | rfl | h4
        · rw [if_neg (by omega), if_neg (by omega), if_neg (by omega), if_neg (by omega), if_neg (by omega), if_neg (by omega), if_neg (by omega)]; exact this
        · by_cases z : s = 0
          · subst z; simp; exact this
          · rw [if_neg (by omega), if_neg (by omega), if_neg (by omega), if_neg (by omega), if_pos rfl, if_neg z]; rw [this]; exact (Int32.add_zero _).symm
        · by_cases z : s = 1
          · subst z; simp; exact this
          · rw [if_neg (by omega), if_neg (by omega), if_neg (by omega), if_neg (by omega), if_neg (by omega), if_pos rfl, if_neg z]; rw [this]; exact (Int32.add_zero _).symm
        · by_cases z : s = 2
          · subst z; simp; exact this
          · rw [if_neg (by omega), if_neg (by omega), if_neg (by omega), if_neg (by omega), if_neg (by omega), if_neg (by omega), if_pos rfl, if_neg z]; rw [this]; exact (Int32.add_zero _).symm
        · rw [if_neg (by omega), if_neg (by omega), if_neg (by omega), if_neg (by omega), if_neg (by omega), if_neg (by omega), if_neg (by omega)]; exact this
      · rw [kR, if_neg (by omega), if_pos (by omega)]; exact nI_1 m
      · rw [e2, ea]; simp only [sx_u_at]; simp; exact nI_1 m
      · by_cases hi2 : i = m
        · subst hi2
          have q1 : σ2 21 e 0 i = nI s := by rw [e2, ea]; simp [sx_u_at]
          have q2 : σ2 22 e 0 i = fr := by rw [e2, ea]; simp [sx_u_at]
          have q3 : σ2 23 e 0 i = to := by rw [e2, ea]; simp [sx_u_at]
          have q4 : σ2 24 e 0 i = ab := by rw [e2, ea]; simp [sx_u_at]
          have q5 : σ2 25 e 0 i = va := by rw [e2, ea]; simp [sx_u_at]
          have q6 : σ2 26 e 0 i = li := by rw [e2, ea]; simp [sx_u_at]
          rw [q1, q2, q3, q4, q5, q6, kR, kR, if_neg (by omega), if_neg (by omega), if_neg (by omega), if_pos (by omega), if_neg (by omega), if_neg (by omega), if_pos (by omega)]
          exact hm
        · rw [kM 21 i (by simp) hi2, kM 22 i (by simp) hi2, kM 23 i (by simp) hi2, kM 24 i (by simp) hi2, kM 25 i (by simp) hi2, kM 26 i (by simp) hi2, kR, kR, if_neg (by omega), if_neg (by omega), if_neg (by omega), if_neg (by omega), if_neg (by omega), if_neg (by omega), if_neg (by omega), if_neg (by omega)]
          exact hN.2.2.2.2.2.2.2.2.2.1 i (by omega)
    refine ⟨m + 1, σ2, ρ2, ⟨he, hP.mv f1 g1, hN2, ?_⟩, f1, g1, k27, by rw [k16]; simp, fun Q hQ => ?_, fun Q hQ => ?_⟩
    · rw [f1.1 31 e 0 (by omega), g1 50 0 0 (by omega)]; exact hs
    · unfold wp_En_put
      have ea20 : ∀ x : Int32, sx_u (sx_u (sx_u (sx_u (sx_u (sx_u σ 21 e 0 m (nI s)) 22 e 0 m fr) 23 e 0 m to) 24 e 0 m ab) 25 e 0 m va) 26 e 0 m li 20 e 0 0 = nI m := fun _ => by simp [sx_u_at, a2c]
      have h0 := ea20 0
      rw [a2c, if_pos (by exact nI_lt hl (by decide)), cm]
      refine ⟨im, fun _ q => ?_⟩; subst q
      refine ⟨im, fun _ q => ?_⟩; subst q
      refine ⟨im, fun _ q => ?_⟩; subst q
      refine ⟨im, fun _ q => ?_⟩; subst q
      refine ⟨im, fun _ q => ?_⟩; subst q
      refine ⟨im, fun _ q => ?_⟩; subst q
      intro _ q
      rw [h0, ← ea] at q
      subst q
      unfold wp_En_put_b113 wp_En_put_b135 wp_En_put_b157
      rcases (show s = 0 ∨ s = 1 ∨ s = 2 by omega) with rfl | rfl | rfl
      · rw [if_pos (by decide)]
        intro _ q; subst q
        rw [if_neg (by decide)]
        intro _ q; subst q
        rw [if_neg (by decide)]
        intro _ q; subst q
        have : σ2 = _ := e2
        simp only [sx_u_at] at this ⊢
        simp at this ⊢
        rw [← this]; exact hQ
      · rw [if_neg (by decide)]
        intro _ q; subst q
        rw [if_pos (by decide)]
        intro _ q; subst q
        rw [if_neg (by decide)]
        intro _ q; subst q
        have : σ2 = _ := e2
        simp only [sx_u_at] at this ⊢
        simp at this ⊢
        rw [← this]; exact hQ
      · rw [if_neg (by decide)]
        intro _ q; subst q
        rw [if_neg (by decide)]
        intro _ q; subst q
        rw [if_pos (by decide)]
        intro _ q; subst q
        have : σ2 = _ := e2
        simp only [sx_u_at] at this ⊢
        simp at this ⊢
        rw [← this]; exact hQ
    · unfold wp_Mo_puts
      have hne : ¬ nI m = 200 := fun q => hf ((nI_eq (b := 200) (by omega) (by decide)).mp q)
      rw [e7, if_neg hne, cl_I e244 (by omega), cl_I e243 (by omega), c1s]
      refine ⟨i7, in_I e243 (by omega) (by decide), fun _ q => ?_⟩; subst q
      refine ⟨in_I e244 (by omega) (by decide), fun _ q => ?_⟩; subst q
      refine ⟨i7, fun _ q => ?_⟩
      have q2 : _ = ρa := q.trans ra.symm
      subst q2
      refine ⟨i1s, i1s, fun _ q => ?_⟩
      rw [← r2] at q
      subst q
      exact hQ
end PUT
