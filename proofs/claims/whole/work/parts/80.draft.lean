/-- the class's draft and the side of the reference that doesn't live: p posts, l links -/
def dr_ (B : Nat → Int32) (t N v p l : Nat) (σ ρ : sx_M) (θ : sx_L) : Prop :=
  (p ≤ 7 ∧ l ≤ 16 ∧ v < 2) ∧ (σ 8 1 0 0 = nI p ∧ σ 8 1 0 1 = nI l) ∧ (pn_z (σ 8 1 0 7) ∧ ρ 65 0 0 v = σ 8 1 0 7) ∧
  (∀ i, i < 9 → ρ 66 0 0 (9 * v + i) = σ 14 1 0 i ∧ pn_r 9999 (σ 14 1 0 i)) ∧
  ((∃ h, 1 ≤ h ∧ h ≤ 4 ∧ σ 14 1 0 0 = nI (2 * h)) ∧ pn_r 4 (σ 14 1 0 1) ∧ (∃ h, 2 ≤ h ∧ h ≤ 60 ∧ σ 14 1 0 6 = nI h) ∧ ∃ h, 1 ≤ h ∧ h ≤ 20 ∧ σ 14 1 0 5 = nI h) ∧
  (∀ a b, a < 7 → b < 7 → ρ 64 0 0 (49 * v + 7 * a + b) = σ 13 1 a b ∧ (σ 13 1 a b = -1 ∨ (a < p ∧ b < p ∧ ∃ k, k < l ∧ σ 13 1 a b = nI k ∧ ((σ 9 1 0 k = nI a ∧ σ 10 1 0 k = nI b) ∨ (σ 9 1 0 k = nI b ∧ σ 10 1 0 k = nI a))))) ∧
  (∀ a, a < 7 → σ 13 1 a a = -1) ∧
  (∀ k, k < l → ρ 61 0 0 (16 * v + k) = σ 9 1 0 k ∧ ρ 62 0 0 (16 * v + k) = σ 10 1 0 k ∧ ρ 63 0 0 (16 * v + k) = σ 11 1 0 k ∧ (∃ c, 1 ≤ c ∧ c ≤ 9 ∧ σ 11 1 0 k = nI c) ∧ ∃ a b, a < p ∧ b < p ∧ a ≠ b ∧ σ 9 1 0 k = nI a ∧ σ 10 1 0 k = nI b ∧ σ 13 1 a b = nI k ∧ σ 13 1 b a = nI k) ∧
  nm_ B t N v p σ θ
section DRAFT
variable {t nt N v m p l : Nat} {σ σ2 ρ ρ2 : sx_M} {θ θ2 : sx_L} {B : Nat → Int32} {F : Int32} {w : Nat}
/-- nothing of it has changed -/
theorem dr_.mv (h : dr_ B t N v p l σ ρ θ) (hc : ∀ k n q, 8 ≤ k → k ≤ 15 → σ2 k n q = σ k n q) (hr : ∀ k, 61 ≤ k → k ≤ 66 → ρ2 k 0 0 = ρ k 0 0) (hl : θ2 60 = θ 60) : dr_ B t N v p l σ2 ρ2 θ2 := by
  unfold dr_ nm_ at h ⊢
  rw [hr 61 (by decide) (by decide), hr 62 (by decide) (by decide), hr 63 (by decide) (by decide), hr 64 (by decide) (by decide), hr 65 (by decide) (by decide), hr 66 (by decide) (by decide), hl]
  simp only [hc 8 _ _ (by decide) (by decide), hc 9 _ _ (by decide) (by decide), hc 10 _ _ (by decide) (by decide), hc 11 _ _ (by decide) (by decide), hc 13 _ _ (by decide) (by decide), hc 14 _ _ (by decide) (by decide), hc 15 _ _ (by decide) (by decide)]
  exact h
theorem wk_.z {k x : Nat} (h : ρ 50 0 0 14 = 0) : wk_ (nI k) x (pr_w ρ k x) := by
  unfold pr_w
  rw [if_pos (Or.inl h)]
  exact ⟨by rw [sx_u_at, if_neg (by omega), sx_u_at]; simp, by rw [sx_u_at]; simp⟩
/-- what of the reference's tables a step leaves -/
theorem pr_n_r {k n q : Nat} (h : ¬ k = 50) : pr_n ρ m k n q = ρ k n q := by unfold pr_n; rw [sx_u_row _ _ _ _ _ _ (by omega)]
theorem pr_n_14 : pr_n ρ m 50 0 0 14 = ρ 50 0 0 14 := by unfold pr_n; rw [sx_u_at, if_neg (by omega)]
theorem sy_ge (o : Nat → Nat) : ∀ f m s me p l, m ≤ (sy_ o f m s me p l).2
  | 0, m, _, _, _, _ => Nat.le_refl _
  | f + 1, m, s, me, p, l => by
    unfold sy_
    split
    · exact Nat.le_refl _
    · split
      · split
        · exact Nat.le_refl _
        · split
          · exact Nat.le_refl _
          · have := sy_ge o f (m + 1) (sy_h (o m)) 0 (p + if o m = 0 then 1 else 0) (l + if o m = 1 then 1 else 0)
            omega
      · by_cases hq : (if sy_c s me = 110 then o m = 14 else if sy_c s me = 105 then o m = 15 else if sy_c s me = 103 then (o m = 12 ∨ o m = 13) else o m = 16)
        · rw [if_neg (fun z => z hq)]
          by_cases h4 : m = 400
          · rw [if_pos h4]; exact Nat.le_refl _
          · rw [if_neg h4]
            have := sy_ge o f (m + 1) s (me + 1) p l
            omega
        · rw [if_pos hq]; exact Nat.le_refl _
/-- how a tell ends on both sides: well, or with a blame -/
def tl_ (B : Nat → Int32) (t N v p l m : Nat) (σ σ2 ρ2 : sx_M) (θ2 : sx_L) : Prop := (σ2 3 0 0 3 = 0 ∧ σ2 3 0 0 4 = σ 3 0 0 4 ∧ ρ2 50 0 0 14 = 0 ∧ dr_ B t N v p l σ2 ρ2 θ2) ∨ ∃ k x, 3 ≤ k ∧ k ≤ 5 ∧ σ2 3 0 0 3 = nI k ∧ σ2 3 0 0 4 = nI x ∧ wk_ (nI k) x ρ2 ∧ x < tx_j B t m
/-- the beginning of a tell in the class -/
theorem C_tell (h : cc_ B t N σ) (hm : m + 1 + sy_l (sy_h (tx_o B t m)) ≤ N) {Q : sx_M → Prop} (hq : if nI (tx_o B t m) = 0 then (wp_Re_tellPost (nI (m + 1)) σ (fun σ16 => wp_Re_tell_b123 Q σ16)) else (if nI (tx_o B t m) = 1 then (wp_Re_tellLink (nI (m + 1)) σ (fun σ15 => wp_Re_tell_b123 Q σ15)) else (if nI (tx_o B t m) = 11 then (vp_in (nI (m + 1)) 400 ∧ (if σ 5 0 0 (m + 1) = 13 then (wp_Re_tell_b90 Q 1 1 σ) else (wp_Re_tell_b90 Q 1 0 σ))) else (wp_Re_intAt (nI (m + 1)) σ (fun r9 σ9 => wp_Pl_setNumber 1 (nI (tx_o B t m)) r9 σ9 (fun r10 σ10 => if r10 = 0 then (wp_Re_blame (5 : Int32) (nI (m + 1)) σ10 (fun σ12 => wp_Re_tell_b123 Q σ12)) else (wp_Re_tell_b123 Q σ10))))))) : wp_Re_tell (nI m) σ Q := by
  have hN := h.2.2.1
  have hmN : m < N := by omega
  unfold wp_Re_tell
  rw [nI_clamp (n := m) (by omega), (h.2.2.2.2.1 m hmN).1]
  refine ⟨vp_in_nI (by omega) (by decide), C_tellSize h hmN ?_⟩
  rw [nI_add, h.2.2.2.1, if_pos (nI_le (by omega) (by omega)), nI_1, nI_clamp (n := m + 1) (by omega)]
  exact hq
theorem S_tellPost (hc : cc_ B t N σ) (h : pr_C B t nt v m p l ρ θ) (hD : dr_ B t N v p l σ ρ θ) (h3 : σ 3 0 0 3 = 0) (h14 : ρ 50 0 0 14 = 0) (ho : tx_o B t m = 0) {s : Nat} (hy : sy_y (tx_o B t) m s (sy_l s) p l = (0, N)) :
    ∃ σ2 ρ2 θ2, (∀ Q : sx_M → Prop, Q σ2 → wp_Re_tell (nI m) σ Q) ∧ (∀ Q : sx_M → sx_L → Prop, Q ρ2 θ2 → wp_Mo_tellOne ρ θ Q) ∧ cc_f σ σ2 ∧ pr_g v ρ ρ2 ∧ pr_l v θ θ2 ∧ (m + 3 ≤ N ∧ sy_y (tx_o B t) (m + 3) 1 (sy_l 1) (p + 1) l = (0, N)) ∧ pr_C B t nt v (m + 3) (p + 1) l ρ2 θ2 ∧ tl_ B t N v (p + 1) l (m + 3) σ σ2 ρ2 θ2 := by
  have ht := hc.b
  have hN := hc.2.2.1
  have h17 : tx_o B t m ≠ 17 := by omega
  obtain ⟨ρ2, θ2, wR, o⟩ := R_tellPost h ho (s := s)
  rcases o with ⟨-, -, b3, -⟩ | ⟨y, ⟨k1, k2, k3, k4⟩, e1, e2⟩
  · rw [hy] at b3; exact absurd b3 (by show ¬ 1 ≤ 0; decide)
  rw [hy] at y
  have nN : m + 3 ≤ N := by have := sy_ge (tx_o B t) (401 - (m + 3)) (m + 3) 1 (sy_l 1) (p + 1) l; have e : (sy_ (tx_o B t) (401 - (m + 3)) (m + 3) 1 (sy_l 1) (p + 1) l) = (0, N) := y.symm; rw [e] at this; exact this
  obtain ⟨d0, d1, d2, d3, d4, d5, d6, d7, d8⟩ := id hD
  have h1 := h.n h17 (by omega)
  obtain ⟨W, eW⟩ : ∃ W, W = if pr_m θ v (tx_nm B t (m + 1)) p 0 < 0 then pr_n ρ m else pr_w (pr_n ρ m) 3 (tx_j B t (m + 1)) := ⟨_, rfl⟩
  rw [← eW] at e2
  have hW : pr_C B t nt v (m + 1) p l W θ := by
    rw [eW]; split
    · exact h1
    · exact h1.w _ _
  have gW : pr_g v ρ W := by
    rw [eW]; split
    · exact pr_n_g
    · exact pr_n_g.tr (pr_w_g _ _)
  have lθ : pr_l v θ θ2 := by
    rw [e1]
    refine ⟨fun k hk => ?_, fun j hj => ?_⟩
    · unfold sx_ul; exact sx_rl_ne hk
    · rw [sx_ul_at, if_neg (by omega)]
  obtain ⟨V, eV⟩ : ∃ z, z = sx_u W 58 0 0 v (nI (p + 1)) := ⟨_, rfl⟩
  rw [← eV] at e2
  have gV : pr_g v W V := by rw [eV]; exact pr_g.rf.u (Or.inr (Or.inl ⟨Or.inl rfl, rfl⟩))
  have hV : pr_C B t nt v (m + 1) (p + 1) l V θ2 := by
    refine hW.mv gV lθ ?_ hW.2.2.1.2 ?_ ?_ (by omega) ?_ hW.2.2.2.2.2.2
    · rw [eV, sx_u_row _ _ _ _ _ _ (by decide)]; exact hW.2.2.1.1
    · rw [eV, sx_u_row _ _ _ _ _ _ (by decide)]; exact hW.2.2.2.1
    · rw [eV, sx_u_at]; simp
    · rw [eV, sx_u_row _ _ _ _ _ _ (by decide)]; exact hW.2.2.2.2.2.1
  have h2 := (hV.n (by omega) (by omega)).n (fun z => by have := k3.symm.trans z; omega) (by omega)
  have h2' : pr_C B t nt v (m + 3) (p + 1) l ρ2 θ2 := by rw [e2]; exact h2
  have g2 : pr_g v ρ ρ2 := by rw [e2]; exact ((gW.tr gV).tr pr_n_g).tr pr_n_g
  have head : ∀ Q : sx_M → Prop, wp_Re_tellPost (nI (m + 1)) σ Q → wp_Re_tell (nI m) σ Q := fun Q hq => by
    refine C_tell hc (by rw [ho]; show m + 1 + 2 ≤ N; omega) ?_
    rw [ho, if_pos (show nI 0 = 0 from rfl)]; exact hq
  have mm := pr_m_7 h1 (tx_nm B t (m + 1))
  by_cases c : pr_m θ v (tx_nm B t (m + 1)) p 0 < 0
  · have cm : pr_m θ v (tx_nm B t (m + 1)) p 0 = -1 := by
      rcases mm with z | ⟨a, a1, a2⟩
      · exact z
      · rw [a2] at c; exact absurd c (nI_pos (by omega))
    rw [if_pos c] at eW
    obtain ⟨σ2, eσ⟩ : ∃ z, z = sx_u (sx_u σ 15 0 0 p (nI (m + 1))) 8 1 0 0 (nI (p + 1)) := ⟨_, rfl⟩
    have o8 : ∀ k n q, ¬ (k = 15 ∧ n = 0 ∧ q = 0) → ¬ (k = 8 ∧ n = 1 ∧ q = 0) → σ2 k n q = σ k n q := fun k n q z1 z2 => by rw [eσ, sx_u_row _ _ _ _ _ _ z2, sx_u_row _ _ _ _ _ _ z1]
    have o81 : ∀ j, ¬ j = 0 → σ2 8 1 0 j = σ 8 1 0 j := fun j hj => by rw [eσ, sx_u_at, if_neg (by omega), sx_u_row _ _ _ _ _ _ (by omega)]
    have o15 : ∀ j, ¬ j = p → σ2 15 0 0 j = σ 15 0 0 j := fun j hj => by rw [eσ, sx_u_row _ _ _ _ _ _ (by decide), sx_u_at, if_neg (by omega)]
    have r2 : ∀ k n q, ¬ (k = 50 ∨ k = 58) → ρ2 k n q = ρ k n q := fun k n q z => by rw [e2, pr_n_r (by omega), pr_n_r (by omega), eV, sx_u_row _ _ _ _ _ _ (by omega), eW, pr_n_r (by omega)]
    refine ⟨σ2, ρ2, θ2, fun Q hQ => head Q ?_, wR, by rw [eσ]; exact (cc_f.rf.u (by omega)).u (by omega), g2, lθ, ⟨nN, y.symm⟩, h2', Or.inl ⟨by rw [o8 3 0 0 (by omega) (by omega)]; exact h3, by rw [o8 3 0 0 (by omega) (by omega)], ?_, ?_⟩⟩
    · unfold wp_Re_tellPost
      refine C_postNamed hc d0.1 d1.1 d8 (by omega) k2 ?_
      rw [cm, if_pos rfl, d1.1, if_pos (show nI p < 7 from nI_lt (b := 7) k4 (by decide)), nI_clamp (n := p) (by omega)]
      refine ⟨vp_in_nI k4 (by decide), ?_⟩
      intro _ q; subst q
      rw [show sx_u σ 15 0 0 p (nI (m + 1)) 8 1 0 0 = nI p by rw [sx_u_row _ _ _ _ _ _ (by decide)]; exact d1.1, nI_1]
      intro _ q; rw [← eσ] at q; subst q
      exact hQ
    · rw [e2, pr_n_14, pr_n_14, eV, sx_u_row _ _ _ _ _ _ (by decide), eW, pr_n_14]; exact h14
    · refine ⟨⟨by omega, d0.2.1, d0.2.2⟩, ⟨by rw [eσ, sx_u_at]; simp, by rw [o81 1 (by decide)]; exact d1.2⟩, ⟨by rw [o81 7 (by decide)]; exact d2.1, by rw [o81 7 (by decide), r2 65 0 0 (by omega)]; exact d2.2⟩, fun i hi => ?_, ?_, fun a b ha hb => ?_, fun a ha => ?_, fun k hk => ?_, fun i hi => ?_⟩
      · rw [o8 14 1 0 (by omega) (by omega), r2 66 0 0 (by omega)]; exact d3 i hi
      · rw [o8 14 1 0 (by omega) (by omega)]; exact d4
      · rw [o8 13 1 a (by omega) (by omega), o8 9 1 0 (by omega) (by omega), o8 10 1 0 (by omega) (by omega), r2 64 0 0 (by omega)]
        obtain ⟨q1, q2⟩ := d5 a b ha hb
        refine ⟨q1, ?_⟩
        rcases q2 with q2 | ⟨q2, q3, q4⟩
        · exact Or.inl q2
        · exact Or.inr ⟨by omega, by omega, q4⟩
      · rw [o8 13 1 a (by omega) (by omega)]; exact d6 a ha
      · rw [o8 9 1 0 (by omega) (by omega), o8 10 1 0 (by omega) (by omega), o8 11 1 0 (by omega) (by omega), r2 61 0 0 (by omega), r2 62 0 0 (by omega), r2 63 0 0 (by omega)]
        obtain ⟨q1, q2, q3, q4, a, b, q5, q6, q7, q8, q9, q10, q11⟩ := d7 k hk
        exact ⟨q1, q2, q3, q4, a, b, by omega, by omega, q7, q8, q9, by rw [o8 13 1 a (by omega) (by omega)]; exact q10, by rw [o8 13 1 b (by omega) (by omega)]; exact q11⟩
      · by_cases z : i = p
        · rw [z]
          refine ⟨m + 1, by omega, ?_, k2, ?_⟩
          · rw [eσ, sx_u_row _ _ _ _ _ _ (by decide), sx_u_at]; simp
          · rw [e1, sx_ul_at]; simp
        · obtain ⟨q, q1, q2, q3, q4⟩ := d8 i (by omega)
          refine ⟨q, q1, by rw [o15 i z]; exact q2, q3, ?_⟩
          rw [e1, sx_ul_at, if_neg (by omega)]; exact q4
  · rw [if_neg c] at eW
    have cm : ¬ pr_m θ v (tx_nm B t (m + 1)) p 0 = -1 := fun z => c (by rw [z]; decide)
    obtain ⟨j1, j2⟩ := h.j ht (i := m + 1) (k := m + 3) (by omega) h2'.2.2.1.2
    refine ⟨cc_b σ 3 (tx_j B t (m + 1)), ρ2, θ2, fun Q hQ => head Q ?_, wR, cc_b_f, g2, lθ, ⟨nN, y.symm⟩, h2', Or.inr ⟨3, tx_j B t (m + 1), by decide, by decide, cc_b_v.1, cc_b_v.2, ?_, j1⟩⟩
    · unfold wp_Re_tellPost wp_Re_tellPost_b22
      refine C_postNamed hc d0.1 d1.1 d8 (by omega) k2 ?_
      rw [if_neg cm]
      exact C_blame hc (by omega) (k := 3) rfl hQ
    · rw [e2, eV, eW]
      exact wk_.n (wk_.n (wk_.u (wk_.z (by rw [pr_n_14]; exact h14)) (by decide)))
theorem S_tellGoal (hc : cc_ B t N σ) (h : pr_C B t nt v m p l ρ θ) (hD : dr_ B t N v p l σ ρ θ) (h3 : σ 3 0 0 3 = 0) (h14 : ρ 50 0 0 14 = 0) (ho : tx_o B t m = 11) {s : Nat} (hy : sy_y (tx_o B t) m s (sy_l s) p l = (0, N)) :
    ∃ σ2 ρ2 θ2, (∀ Q : sx_M → Prop, Q σ2 → wp_Re_tell (nI m) σ Q) ∧ (∀ Q : sx_M → sx_L → Prop, Q ρ2 θ2 → wp_Mo_tellOne ρ θ Q) ∧ cc_f σ σ2 ∧ pr_g v ρ ρ2 ∧ pr_l v θ θ2 ∧ (m + 3 ≤ N ∧ sy_y (tx_o B t) (m + 3) 3 (sy_l 3) p l = (0, N)) ∧ pr_C B t nt v (m + 3) p l ρ2 θ2 ∧ tl_ B t N v p l (m + 3) σ σ2 ρ2 θ2 := by
  have hN := hc.2.2.1
  have h17 : tx_o B t m ≠ 17 := by omega
  obtain ⟨ρ2, wR, o⟩ := R_tellGoal h ho (s := s)
  rcases o with ⟨-, -, b3, -⟩ | ⟨y, ⟨k1, k2, k3⟩, e2⟩
  · rw [hy] at b3; exact absurd b3 (by show ¬ 1 ≤ 0; decide)
  rw [hy] at y
  have nN : m + 3 ≤ N := by have := sy_ge (tx_o B t) (401 - (m + 3)) (m + 3) 3 (sy_l 3) p l; have e : (sy_ (tx_o B t) (401 - (m + 3)) (m + 3) 3 (sy_l 3) p l) = (0, N) := y.symm; rw [e] at this; exact this
  obtain ⟨d0, d1, d2, d3, d4, d5, d6, d7, d8⟩ := id hD
  have h1 := h.n h17 (by omega)
  obtain ⟨g, eg⟩ : ∃ g : Int32, g = if tx_o B t (m + 1) = 13 then 1 else 0 := ⟨_, rfl⟩
  have zg : g = 0 ∨ g = 1 := by rw [eg]; split <;> simp
  rw [← eg] at e2
  obtain ⟨V, eV⟩ : ∃ z, z = sx_u (pr_n ρ m) 65 0 0 v g := ⟨_, rfl⟩
  rw [← eV] at e2
  have gV0 : pr_g v (pr_n ρ m) V := by rw [eV]; exact pr_g.rf.u (Or.inr (Or.inl ⟨Or.inr (Or.inr rfl), rfl⟩))
  have hV : pr_C B t nt v (m + 1) p l V θ := by
    refine h1.mv gV0 pr_l.rf ?_ h1.2.2.1.2 ?_ ?_ h1.2.2.2.2.1.2 ?_ h1.2.2.2.2.2.2
    · rw [eV, sx_u_row _ _ _ _ _ _ (by decide)]; exact h1.2.2.1.1
    · rw [eV, sx_u_row _ _ _ _ _ _ (by decide)]; exact h1.2.2.2.1
    · rw [eV, sx_u_row _ _ _ _ _ _ (by decide)]; exact h1.2.2.2.2.1.1
    · rw [eV, sx_u_row _ _ _ _ _ _ (by decide)]; exact h1.2.2.2.2.2.1
  have h2 := (hV.n (by omega) (by omega)).n (fun z => by have := k3.symm.trans z; omega) (by omega)
  have h2' : pr_C B t nt v (m + 3) p l ρ2 θ := by rw [e2]; exact h2
  obtain ⟨σ2, eσ⟩ : ∃ z, z = sx_u σ 8 1 0 7 g := ⟨_, rfl⟩
  have o8 : ∀ k n q, ¬ (k = 8 ∧ n = 1 ∧ q = 0) → σ2 k n q = σ k n q := fun k n q z => by rw [eσ, sx_u_row _ _ _ _ _ _ z]
  have o81 : ∀ j, ¬ j = 7 → σ2 8 1 0 j = σ 8 1 0 j := fun j hj => by rw [eσ, sx_u_at, if_neg (by omega)]
  have o87 : σ2 8 1 0 7 = g := by rw [eσ, sx_u_at]; simp
  have r2 : ∀ k n q, ¬ (k = 50 ∨ k = 65) → ρ2 k n q = ρ k n q := fun k n q z => by rw [e2, pr_n_r (by omega), pr_n_r (by omega), eV, sx_u_row _ _ _ _ _ _ (by omega), pr_n_r (by omega)]
  have r65 : ρ2 65 0 0 v = g := by rw [e2, pr_n_r (by omega), pr_n_r (by omega), eV, sx_u_at]; simp
  refine ⟨σ2, ρ2, θ, fun Q hQ => ?_, wR, by rw [eσ]; exact cc_f.rf.u (by omega), by rw [e2]; exact ((pr_n_g.tr gV0).tr pr_n_g).tr pr_n_g, pr_l.rf, ⟨nN, y.symm⟩, h2', Or.inl ⟨by rw [o8 3 0 0 (by omega)]; exact h3, by rw [o8 3 0 0 (by omega)], ?_, ?_⟩⟩
  · refine C_tell hc (by rw [ho]; show m + 1 + 2 ≤ N; omega) ?_
    rw [ho, if_neg (show ¬ nI 11 = 0 by decide), if_neg (show ¬ nI 11 = 1 by decide), if_pos (show nI 11 = 11 from rfl)]
    refine ⟨vp_in_nI (by omega) (by decide), ?_⟩
    have e5 := (hc.2.2.2.2.1 (m + 1) (by omega)).1
    have b90 : wp_Re_tell_b90 Q 1 g σ := ⟨zg, fun _ q => by rw [← eσ] at q; subst q; exact hQ⟩
    rw [e5]
    have os : tx_o B t (m + 1) ≤ 18 := tx_s_le B t _
    by_cases c : tx_o B t (m + 1) = 13
    · rw [if_pos c] at eg
      rw [if_pos (show nI (tx_o B t (m + 1)) = 13 by rw [c]; rfl)]
      rw [eg] at b90; exact b90
    · rw [if_neg c] at eg
      rw [if_neg (show ¬ nI (tx_o B t (m + 1)) = 13 from fun z => c ((nI_eq (b := 13) (by omega) (by decide)).mp z))]
      rw [eg] at b90; exact b90
  · rw [e2, pr_n_14, pr_n_14, eV, sx_u_row _ _ _ _ _ _ (by decide), pr_n_14]; exact h14
  · refine ⟨d0, ⟨by rw [o81 0 (by decide)]; exact d1.1, by rw [o81 1 (by decide)]; exact d1.2⟩, ⟨by rw [o87]; exact zg, by rw [o87, r65]⟩, fun i hi => ?_, ?_, fun a b ha hb => ?_, fun a ha => ?_, fun k hk => ?_, fun i hi => ?_⟩
    · rw [o8 14 1 0 (by omega), r2 66 0 0 (by omega)]; exact d3 i hi
    · rw [o8 14 1 0 (by omega)]; exact d4
    · rw [o8 13 1 a (by omega), o8 9 1 0 (by omega), o8 10 1 0 (by omega), r2 64 0 0 (by omega)]; exact d5 a b ha hb
    · rw [o8 13 1 a (by omega)]; exact d6 a ha
    · rw [o8 9 1 0 (by omega), o8 10 1 0 (by omega), o8 11 1 0 (by omega), r2 61 0 0 (by omega), r2 62 0 0 (by omega), r2 63 0 0 (by omega)]
      obtain ⟨q1, q2, q3, q4, a, b, q5, q6, q7, q8, q9, q10, q11⟩ := d7 k hk
      exact ⟨q1, q2, q3, q4, a, b, q5, q6, q7, q8, q9, by rw [o8 13 1 a (by omega)]; exact q10, by rw [o8 13 1 b (by omega)]; exact q11⟩
    · rw [o8 15 0 0 (by omega)]; exact d8 i hi
theorem S_tellNum (hc : cc_ B t N σ) (h : pr_C B t nt v m p l ρ θ) (hD : dr_ B t N v p l σ ρ θ) (h3 : σ 3 0 0 3 = 0) (h14 : ρ 50 0 0 14 = 0) {k : Nat} (hk : k < 9) (ho : tx_o B t m = k + 2) {s : Nat} (hy : sy_y (tx_o B t) m s (sy_l s) p l = (0, N)) :
    ∃ σ2 ρ2 θ2, (∀ Q : sx_M → Prop, Q σ2 → wp_Re_tell (nI m) σ Q) ∧ (∀ Q : sx_M → sx_L → Prop, Q ρ2 θ2 → wp_Mo_tellOne ρ θ Q) ∧ cc_f σ σ2 ∧ pr_g v ρ ρ2 ∧ pr_l v θ θ2 ∧ (m + 3 ≤ N ∧ sy_y (tx_o B t) (m + 3) 4 (sy_l 4) p l = (0, N)) ∧ pr_C B t nt v (m + 3) p l ρ2 θ2 ∧ tl_ B t N v p l (m + 3) σ σ2 ρ2 θ2 := by
  have ht := hc.b
  have hN := hc.2.2.1
  have h17 : tx_o B t m ≠ 17 := by omega
  obtain ⟨ρ2, wR, o⟩ := R_tellNum ht h hk ho (s := s)
  rcases o with ⟨-, -, b3, -⟩ | ⟨y, ⟨k1, k2, k3⟩, e2⟩
  · rw [hy] at b3; exact absurd b3 (by show ¬ 1 ≤ 0; decide)
  rw [hy] at y
  have nN : m + 3 ≤ N := by have := sy_ge (tx_o B t) (401 - (m + 3)) (m + 3) 4 (sy_l 4) p l; have e : (sy_ (tx_o B t) (401 - (m + 3)) (m + 3) 4 (sy_l 4) p l) = (0, N) := y.symm; rw [e] at this; exact this
  obtain ⟨d0, d1, d2, d3, d4, d5, d6, d7, d8⟩ := id hD
  have h1 := h.n h17 (by omega)
  have vl : tx_i B t (m + 1) < 10000 := (tx_15 ht (hc.e (by omega)) k2).2.2.2.2
  have h2 := (h1.k (st_lo k) (st_hi k) (i := m + 1)).n (by omega) (by omega)
  obtain ⟨V, eV⟩ : ∃ z, z = sx_u (pr_n (pr_b B t (m + 1) (pr_n ρ m) (st_lo k) (st_hi k)) (m + 1)) 66 0 0 (9 * v + k) (nI (st_v k (tx_i B t (m + 1)))) := ⟨_, rfl⟩
  rw [← eV] at e2
  have gV0 : pr_g v (pr_n (pr_b B t (m + 1) (pr_n ρ m) (st_lo k) (st_hi k)) (m + 1)) V := by rw [eV]; exact pr_g.rf.u (Or.inr (Or.inr (Or.inr (Or.inr ⟨rfl, by omega, by omega⟩))))
  have hV : pr_C B t nt v (m + 2) p l V θ := by
    refine h2.mv gV0 pr_l.rf ?_ h2.2.2.1.2 ?_ ?_ h2.2.2.2.2.1.2 ?_ h2.2.2.2.2.2.2
    · rw [eV, sx_u_row _ _ _ _ _ _ (by decide)]; exact h2.2.2.1.1
    · rw [eV, sx_u_row _ _ _ _ _ _ (by decide)]; exact h2.2.2.2.1
    · rw [eV, sx_u_row _ _ _ _ _ _ (by decide)]; exact h2.2.2.2.2.1.1
    · rw [eV, sx_u_row _ _ _ _ _ _ (by decide)]; exact h2.2.2.2.2.2.1
  have h3' := hV.n (by omega) (by omega)
  have h2' : pr_C B t nt v (m + 3) p l ρ2 θ := by rw [e2]; exact h3'
  have g2 : pr_g v ρ ρ2 := by rw [e2]; exact (((pr_n_g.tr (pr_b_g _ _)).tr pr_n_g).tr gV0).tr pr_n_g
  have shp : sy_h (k + 2) = 4 := by unfold sy_h; rw [if_neg (by omega), if_neg (by omega), if_neg (by omega), if_neg (by omega), if_neg (by omega)]
  have head : ∀ Q : sx_M → Prop, wp_Pl_setNumber 1 (nI (k + 2)) (nI (tx_i B t (m + 1))) σ (fun r10 σ10 => if r10 = 0 then (wp_Re_blame (5 : Int32) (nI (m + 1)) σ10 Q) else Q σ10) → wp_Re_tell (nI m) σ Q := fun Q hq => by
    have e : ∀ j : Nat, j < 100 → (nI (k + 2) = nI j ↔ k + 2 = j) := fun j hj => nI_eq (by omega) (by omega)
    refine C_tell hc (by rw [ho, shp]; show m + 1 + 2 ≤ N; omega) ?_
    rw [ho, if_neg (show ¬ nI (k + 2) = 0 from fun z => by have := (e 0 (by decide)).mp z; omega), if_neg (show ¬ nI (k + 2) = 1 from fun z => by have := (e 1 (by decide)).mp z; omega), if_neg (show ¬ nI (k + 2) = 11 from fun z => by have := (e 11 (by decide)).mp z; omega)]
    exact C_intAt hc (by omega) k2 hq
  by_cases c : tx_i B t (m + 1) < st_lo k ∨ st_hi k < tx_i B t (m + 1)
  · have ebb : pr_b B t (m + 1) (pr_n ρ m) (st_lo k) (st_hi k) = pr_w (pr_n ρ m) 5 (tx_j B t (m + 1)) := by unfold pr_b; exact if_pos c
    obtain ⟨j1, j2⟩ := h.j ht (i := m + 1) (k := m + 3) (by omega) h2'.2.2.1.2
    refine ⟨cc_b σ 5 (tx_j B t (m + 1)), ρ2, θ, fun Q hQ => head Q (C_setNumber hk vl (fun _ => ?_) (fun z => absurd c z)), wR, cc_b_f, g2, pr_l.rf, ⟨nN, y.symm⟩, h2', Or.inr ⟨5, tx_j B t (m + 1), by decide, by decide, cc_b_v.1, cc_b_v.2, ?_, j1⟩⟩
    · rw [if_pos rfl]
      exact C_blame hc (by omega) (k := 5) rfl hQ
    · rw [e2, eV, ebb]
      exact wk_.n (wk_.u (wk_.n (wk_.z (by rw [pr_n_14]; exact h14))) (by decide))
  · have ebb : pr_b B t (m + 1) (pr_n ρ m) (st_lo k) (st_hi k) = pr_n ρ m := by unfold pr_b; exact if_neg c
    rw [ebb] at eV
    obtain ⟨σ2, eσ⟩ : ∃ z, z = sx_u σ 14 1 0 k (nI (st_v k (tx_i B t (m + 1)))) := ⟨_, rfl⟩
    have o8 : ∀ k n q, ¬ (k = 14 ∧ n = 1 ∧ q = 0) → σ2 k n q = σ k n q := fun k n q z => by rw [eσ, sx_u_row _ _ _ _ _ _ z]
    have o14 : ∀ j, ¬ j = k → σ2 14 1 0 j = σ 14 1 0 j := fun j hj => by rw [eσ, sx_u_at, if_neg (by omega)]
    have o14k : σ2 14 1 0 k = nI (st_v k (tx_i B t (m + 1))) := by rw [eσ, sx_u_at]; simp
    have r2 : ∀ k n q, ¬ (k = 50 ∨ k = 66) → ρ2 k n q = ρ k n q := fun k n q z => by rw [e2, pr_n_r (by omega), eV, sx_u_row _ _ _ _ _ _ (by omega), pr_n_r (by omega), pr_n_r (by omega)]
    have r66 : ∀ j, ¬ j = 9 * v + k → ρ2 66 0 0 j = ρ 66 0 0 j := fun j hj => by rw [e2, pr_n_r (by omega), eV, sx_u_at, if_neg (by omega), pr_n_r (by omega), pr_n_r (by omega)]
    have r66k : ρ2 66 0 0 (9 * v + k) = nI (st_v k (tx_i B t (m + 1))) := by rw [e2, pr_n_r (by omega), eV, sx_u_at]; simp
    have vb : st_v k (tx_i B t (m + 1)) ≤ 9999 := by unfold st_v; split <;> omega
    have bnd : st_lo k ≤ tx_i B t (m + 1) ∧ tx_i B t (m + 1) ≤ st_hi k := by omega
    refine ⟨σ2, ρ2, θ, fun Q hQ => head Q (C_setNumber hk vl (fun z => absurd z c) (fun _ => ?_)), wR, by rw [eσ]; exact cc_f.rf.u (by omega), g2, pr_l.rf, ⟨nN, y.symm⟩, h2', Or.inl ⟨by rw [o8 3 0 0 (by omega)]; exact h3, by rw [o8 3 0 0 (by omega)], ?_, ?_⟩⟩
    · rw [if_neg (by decide), ← eσ]; exact hQ
    · rw [e2, pr_n_14, eV, sx_u_row _ _ _ _ _ _ (by decide), pr_n_14, pr_n_14]; exact h14
    · refine ⟨d0, ⟨by rw [o8 8 1 0 (by omega)]; exact d1.1, by rw [o8 8 1 0 (by omega)]; exact d1.2⟩, ⟨by rw [o8 8 1 0 (by omega)]; exact d2.1, by rw [o8 8 1 0 (by omega), r2 65 0 0 (by omega)]; exact d2.2⟩, fun i hi => ?_, ⟨?_, ?_, ?_, ?_⟩, fun a b ha hb => ?_, fun a ha => ?_, fun k hk => ?_, fun i hi => ?_⟩
      · by_cases z : i = k
        · rw [z, o14k, r66k]; exact ⟨rfl, _, vb, rfl⟩
        · rw [o14 i z, r66 _ (by omega)]; exact d3 i hi
      · by_cases z : k = 0
        · subst z
          have q1 : st_lo 0 = 2 := rfl
          have q2 : st_hi 0 = 8 := rfl
          refine ⟨tx_i B t (m + 1) / 2, by omega, by omega, ?_⟩
          rw [o14k]; unfold st_v; rw [if_pos rfl]; congr 1; omega
        · rw [o14 0 (by omega)]; exact d4.1
      · by_cases z : k = 1
        · subst z
          have q2 : st_hi 1 = 4 := rfl
          rw [o14k]; unfold st_v; rw [if_neg (by decide)]; exact ⟨_, by omega, rfl⟩
        · rw [o14 1 (by omega)]; exact d4.2.1
      · by_cases z : k = 6
        · subst z
          have q1 : st_lo 6 = 2 := rfl
          have q2 : st_hi 6 = 60 := rfl
          rw [o14k]; unfold st_v; rw [if_neg (by decide)]; exact ⟨_, by omega, by omega, rfl⟩
        · rw [o14 6 (by omega)]; exact d4.2.2.1
      · by_cases z : k = 5
        · subst z
          have q1 : st_lo 5 = 1 := rfl
          have q2 : st_hi 5 = 20 := rfl
          rw [o14k]; unfold st_v; rw [if_neg (by decide)]; exact ⟨_, by omega, by omega, rfl⟩
        · rw [o14 5 (by omega)]; exact d4.2.2.2
      · rw [o8 13 1 a (by omega), o8 9 1 0 (by omega), o8 10 1 0 (by omega), r2 64 0 0 (by omega)]; exact d5 a b ha hb
      · rw [o8 13 1 a (by omega)]; exact d6 a ha
      · rw [o8 9 1 0 (by omega), o8 10 1 0 (by omega), o8 11 1 0 (by omega), r2 61 0 0 (by omega), r2 62 0 0 (by omega), r2 63 0 0 (by omega)]
        obtain ⟨q1, q2, q3, q4, a, b, q5, q6, q7, q8, q9, q10, q11⟩ := d7 k hk
        exact ⟨q1, q2, q3, q4, a, b, q5, q6, q7, q8, q9, by rw [o8 13 1 a (by omega)]; exact q10, by rw [o8 13 1 b (by omega)]; exact q11⟩
      · rw [o8 15 0 0 (by omega)]; exact d8 i hi
end DRAFT
