section DRAFTB
variable {t nt N v m p l : Nat} {σ σ2 ρ ρ2 : sx_M} {θ θ2 : sx_L} {B : Nat → Int32} {F : Int32} {w : Nat}
theorem S_tellLink (hc : cc_ B t N σ) (h : pr_C B t nt v m p l ρ θ) (hD : dr_ B t N v p l σ ρ θ) (h3 : σ 3 0 0 3 = 0) (h14 : ρ 50 0 0 14 = 0) (ho : tx_o B t m = 1) {s : Nat} (hy : sy_y (tx_o B t) m s (sy_l s) p l = (0, N)) :
    ∃ σ2 ρ2 θ2, (∀ Q : sx_M → Prop, Q σ2 → wp_Re_tell (nI m) σ Q) ∧ (∀ Q : sx_M → sx_L → Prop, Q ρ2 θ2 → wp_Mo_tellOne ρ θ Q) ∧ cc_f σ σ2 ∧ pr_g v ρ ρ2 ∧ pr_l v θ θ2 ∧ (m + 5 ≤ N ∧ sy_y (tx_o B t) (m + 5) 2 (sy_l 2) p (l + 1) = (0, N)) ∧ pr_C B t nt v (m + 5) p (l + 1) ρ2 θ2 ∧ tl_ B t N v p (l + 1) (m + 5) σ σ2 ρ2 θ2 := by
  have ht := hc.b
  have hN := hc.2.2.1
  have h17 : tx_o B t m ≠ 17 := by omega
  have hp7 := h.2.2.2.2.1.2
  obtain ⟨ρ2, wR, o⟩ := R_tellLink ht h ho (s := s)
  rcases o with ⟨-, -, b3, -⟩ | ⟨y, ⟨k1, k2, k3, k4, k5, k6⟩, ra, rb, ρ3, ea, eb, e3, e2⟩
  · rw [hy] at b3; exact absurd b3 (by show ¬ 1 ≤ 0; decide)
  rw [hy] at y
  have nN : m + 5 ≤ N := by have := sy_ge (tx_o B t) (401 - (m + 5)) (m + 5) 2 (sy_l 2) p (l + 1); have e : (sy_ (tx_o B t) (401 - (m + 5)) (m + 5) 2 (sy_l 2) p (l + 1)) = (0, N) := y.symm; rw [e] at this; exact this
  obtain ⟨d0, d1, d2, d3, d4, d5, d6, d7, d8⟩ := id hD
  have h1 := h.n h17 (by omega)
  have ha := pr_m_7 h1 (tx_nm B t (m + 1))
  have hbb := pr_m_7 h1 (tx_nm B t (m + 2))
  rw [← ea] at ha
  rw [← eb] at hbb
  have h2 := (h1.q ra (i := m + 1)).n (by omega) (by omega)
  have h3' := (h2.q rb (i := m + 2)).n (fun z => by have := k3.symm.trans z; omega) (by omega)
  have g3 : pr_g v ρ ρ3 := by rw [e3]; exact (((pr_n_g.tr (pr_q_g _)).tr pr_n_g).tr (pr_q_g _)).tr pr_n_g
  replace h3' : pr_C B t nt v (m + 3) p l ρ3 θ := by rw [e3]; exact h3'
  have h4 := h3'.l4 (i := m) (ra := ra) (rb := rb)
  have w7 : ∀ {r : Int32}, (r = -1 ∨ ∃ a, a < p ∧ r = nI a) → (r = -1 ∨ ∃ a, a < 7 ∧ r = nI a) := fun hr => by
    rcases hr with z | ⟨a, a1, a2⟩
    · exact Or.inl z
    · exact Or.inr ⟨a, by omega, a2⟩
  obtain ⟨ρ7, e7⟩ : ∃ z, z = pr_l7 v l (pr_l4 B t v m ρ3 ra rb) ra rb := ⟨_, rfl⟩
  have g47 : pr_g v (pr_l4 B t v m ρ3 ra rb) ρ7 := by rw [e7]; exact pr_l7_g (by omega) (w7 ha) (w7 hbb)
  have g7 : pr_g v ρ ρ7 := (g3.tr pr_l4_g).tr g47
  have h7 : pr_C B t nt v (m + 3) p (l + 1) ρ7 θ := by
    refine h4.mv g47 pr_l.rf ?_ h4.2.2.1.2 ?_ ?_ h4.2.2.2.2.1.2 ?_ (by omega)
    · rw [e7]; unfold pr_l7; rw [sx_u_row _ _ _ _ _ _ (by decide), pr_l6_r (by decide)]; exact h4.2.2.1.1
    · rw [e7]; unfold pr_l7; rw [sx_u_row _ _ _ _ _ _ (by decide), pr_l6_r (by decide)]; exact h4.2.2.2.1
    · rw [e7]; unfold pr_l7; rw [sx_u_row _ _ _ _ _ _ (by decide), pr_l6_r (by decide)]; exact h4.2.2.2.2.1.1
    · rw [e7]; unfold pr_l7; rw [sx_u_at]; simp
  have h8 := (h7.k 1 9 (i := m + 3)).n (by omega) (by omega)
  obtain ⟨V, eV⟩ : ∃ z, z = sx_u (pr_n (pr_b B t (m + 3) ρ7 1 9) (m + 3)) 63 0 0 (16 * v + l) (nI (tx_i B t (m + 3))) := ⟨_, rfl⟩
  have gV0 : pr_g v (pr_n (pr_b B t (m + 3) ρ7 1 9) (m + 3)) V := by rw [eV]; exact pr_g.rf.u (Or.inr (Or.inr (Or.inl ⟨Or.inr (Or.inr rfl), by omega, by omega⟩)))
  have gV : pr_g v ρ V := ((g7.tr (pr_b_g _ _)).tr pr_n_g).tr gV0
  have hV : pr_C B t nt v (m + 4) p (l + 1) V θ := by
    refine h8.mv gV0 pr_l.rf ?_ h8.2.2.1.2 ?_ ?_ h8.2.2.2.2.1.2 ?_ h8.2.2.2.2.2.2
    · rw [eV, sx_u_row _ _ _ _ _ _ (by decide)]; exact h8.2.2.1.1
    · rw [eV, sx_u_row _ _ _ _ _ _ (by decide)]; exact h8.2.2.2.1
    · rw [eV, sx_u_row _ _ _ _ _ _ (by decide)]; exact h8.2.2.2.2.1.1
    · rw [eV, sx_u_row _ _ _ _ _ _ (by decide)]; exact h8.2.2.2.2.2.1
  have h9 := hV.n (by omega) (by omega)
  rw [← e7, ← eV] at e2
  have h2' : pr_C B t nt v (m + 5) p (l + 1) ρ2 θ := by rw [e2]; exact h9
  have g2 : pr_g v ρ ρ2 := by rw [e2]; exact gV.tr pr_n_g
  have q5 := h2'.2.2.1.2
  obtain ⟨b1, b2⟩ := h.j ht (i := m + 1) (k := m + 2) (by omega) (by omega)
  obtain ⟨c1, c2⟩ := h.j ht (i := m + 1) (k := m + 3) (by omega) (by omega)
  obtain ⟨f1, f2⟩ := h.j ht (i := m + 2) (k := m + 3) (by omega) (by omega)
  obtain ⟨g1, -⟩ := h.j ht (i := m + 3) (k := m + 5) (by omega) (by omega)
  -- wrong from the two posts on: it stays
  have late : ∀ (F : Int32) (w : Nat), ¬ F = 0 → w < tx_j B t (m + 3) → wk_ F w (pr_l4 B t v m ρ3 ra rb) → wk_ F w ρ2 := fun F w hF hw hk => by
    rw [e2, eV, e7]
    exact wk_.n (wk_.u (wk_.n (wk_.b (wk_.l7 hk) hF hw f2)) (by decide))
  -- the class: both posts, the cost
  have head : ∀ Q : sx_M → Prop, (if ra = (-1) then (wp_Re_blame (4 : Int32) (nI (m + 1)) σ Q) else (if rb = (-1) then (wp_Re_blame (4 : Int32) (nI (m + 2)) σ Q) else (if ra = rb then (wp_Re_blame (3 : Int32) (nI (m + 2)) σ Q) else (vp_in ra 7 ∧ (vp_in rb 7 ∧ (if σ 13 1 ra.toNatClampNeg rb.toNatClampNeg = (-1) then (if nI (tx_i B t (m + 3)) < 1 then (wp_Re_blame (5 : Int32) (nI (m + 3)) σ Q) else (if nI (tx_i B t (m + 3)) ≤ 9 then (wp_Pl_addLink 1 ra rb (nI (tx_i B t (m + 3))) σ Q) else (wp_Re_blame (5 : Int32) (nI (m + 3)) σ Q))) else (wp_Re_blame (3 : Int32) (nI (m + 2)) σ Q))))))) → wp_Re_tell (nI m) σ Q := fun Q hq => by
    refine C_tell hc (by rw [ho]; show m + 1 + 4 ≤ N; omega) ?_
    rw [ho, if_neg (show ¬ nI 1 = 0 by decide), if_pos (show nI 1 = 1 from rfl)]
    unfold wp_Re_tellLink
    rw [nI_1, show nI (m + 1) + 2 = nI (m + 3) from nI_add (m + 1) 2]
    refine C_postNamed hc d0.1 d1.1 d8 (by omega) k2 ?_
    rw [← ea]
    refine C_postNamed hc d0.1 d1.1 d8 (m := m + 2) (by omega) k3 ?_
    rw [← eb]
    refine C_intAt hc (m := m + 3) (by omega) k4 ?_
    unfold wp_Re_tellLink_b80 wp_Re_tellLink_b104 wp_Re_tellLink_b127
    rw [nI_1, show nI (m + 1) + 2 = nI (m + 3) from nI_add (m + 1) 2]
    exact hq
  have blame : ∀ (k i : Nat), 3 ≤ k → k ≤ 5 → m < i → i ≤ m + 3 → wk_ (nI k) (tx_j B t i) ρ2 → (∀ Q : sx_M → Prop, wp_Re_blame (nI k) (nI i) σ Q → wp_Re_tell (nI m) σ Q) → ∃ σ2 ρ2 θ2, (∀ Q : sx_M → Prop, Q σ2 → wp_Re_tell (nI m) σ Q) ∧ (∀ Q : sx_M → sx_L → Prop, Q ρ2 θ2 → wp_Mo_tellOne ρ θ Q) ∧ cc_f σ σ2 ∧ pr_g v ρ ρ2 ∧ pr_l v θ θ2 ∧ (m + 5 ≤ N ∧ sy_y (tx_o B t) (m + 5) 2 (sy_l 2) p (l + 1) = (0, N)) ∧ pr_C B t nt v (m + 5) p (l + 1) ρ2 θ2 ∧ tl_ B t N v p (l + 1) (m + 5) σ σ2 ρ2 θ2 := fun k i q1 q2 q3 q4 q5' q6 => by
    obtain ⟨j1, -⟩ := h.j ht (i := i) (k := m + 5) (by omega) q5
    exact ⟨cc_b σ k (tx_j B t i), ρ2, θ, fun Q hQ => q6 Q (C_blame hc (by omega) rfl hQ), wR, cc_b_f, g2, pr_l.rf, ⟨nN, y.symm⟩, h2', Or.inr ⟨k, tx_j B t i, q1, q2, cc_b_v.1, cc_b_v.2, q5', j1⟩⟩
  have p14 : (pr_n ρ m) 50 0 0 14 = 0 := by rw [pr_n_14]; exact h14
  rcases ha with ha | ⟨a, ha, eA⟩
  · -- no such first post
    refine blame 4 (m + 1) (by decide) (by decide) (by omega) (by omega) ?_ (fun Q hq => head Q (by rw [if_pos ha]; exact hq))
    have nq : ¬ 0 ≤ ra := by rw [ha]; decide
    have q1 : wk_ (nI 4) (tx_j B t (m + 1)) (pr_q B t (m + 1) (pr_n ρ m) ra) := by unfold pr_q; rw [if_neg nq]; exact wk_.z p14
    have w3 : wk_ (nI 4) (tx_j B t (m + 1)) ρ3 := by rw [e3]; exact ((q1.n).q (by decide) b1 b2).n
    exact late _ _ (by decide) c1 (w3.l4 (by decide) b1 b2)
  have na : ¬ ra = -1 := by rw [eA]; exact fun z => nI_pos (n := a) (by omega) (by rw [z]; decide)
  have yq : 0 ≤ ra := by rw [eA]; exact nI_pos' (by omega)
  have e3a : ρ3 = pr_n (pr_q B t (m + 2) (pr_n (pr_n ρ m) (m + 1)) rb) (m + 2) := by rw [e3]; unfold pr_q; rw [if_pos yq]
  have p14b : (pr_n (pr_n ρ m) (m + 1)) 50 0 0 14 = 0 := by rw [pr_n_14]; exact p14
  rcases hbb with hbb | ⟨b, hb, eB⟩
  · refine blame 4 (m + 2) (by decide) (by decide) (by omega) (by omega) ?_ (fun Q hq => head Q (by rw [if_neg na, if_pos hbb]; exact hq))
    have nq : ¬ 0 ≤ rb := by rw [hbb]; decide
    have q1 : wk_ (nI 4) (tx_j B t (m + 2)) (pr_q B t (m + 2) (pr_n (pr_n ρ m) (m + 1)) rb) := by unfold pr_q; rw [if_neg nq]; exact wk_.z p14b
    have w3 : wk_ (nI 4) (tx_j B t (m + 2)) ρ3 := by rw [e3a]; exact q1.n
    refine late _ _ (by decide) f1 ?_
    unfold pr_l4
    rw [if_neg (fun z => nq z.1.2)]; exact w3
  have nb : ¬ rb = -1 := by rw [eB]; exact fun z => nI_pos (n := b) (by omega) (by rw [z]; decide)
  have yq2 : 0 ≤ rb := by rw [eB]; exact nI_pos' (by omega)
  have e3b : ρ3 = pr_n (pr_n (pr_n ρ m) (m + 1)) (m + 2) := by rw [e3a]; unfold pr_q; rw [if_pos yq2]
  have ca : ra.toNatClampNeg = a := cl_I eA (by omega)
  have cb : rb.toNatClampNeg = b := cl_I eB (by omega)
  have r3 : ∀ k n q, ¬ k = 50 → ρ3 k n q = ρ k n q := fun k n q hk => by rw [e3b, pr_n_r hk, pr_n_r hk, pr_n_r hk]
  have p14c : ρ3 50 0 0 14 = 0 := by rw [e3b, pr_n_14]; exact p14b
  have e64 : ρ3 64 0 0 (49 * v + 7 * a + b) = σ 13 1 a b := by rw [r3 64 0 0 (by decide)]; exact (d5 a b (by omega) (by omega)).1
  have ia : vp_in ra 7 := in_I eA (by omega) (by decide)
  have ib : vp_in rb 7 := in_I eB (by omega) (by decide)
  have eq_ab : ra = rb ↔ a = b := by rw [eA, eB]; exact nI_eq (by omega) (by omega)
  have neg13 : ρ3 64 0 0 (49 * v + 7 * a + b) < 0 ↔ σ 13 1 a b = -1 := by
    rw [e64]
    constructor
    · intro z
      rcases (d5 a b (by omega) (by omega)).2 with q | ⟨-, -, k, q1, q2, -⟩
      · exact q
      · rw [q2] at z; exact absurd z (nI_pos (by omega))
    · intro z; rw [z]; decide
  by_cases cT : a = b ∨ ¬ σ 13 1 a b = -1
  · -- a link of the same two
    have hT : ra = rb ∨ ¬ ρ3 64 0 0 (49 * v + 7 * a + b) < 0 := by
      rcases cT with z | z
      · exact Or.inl (eq_ab.mpr z)
      · exact Or.inr (fun q => z (neg13.mp q))
    have w4 : wk_ (nI 3) (tx_j B t (m + 2)) (pr_l4 B t v m ρ3 ra rb) := by
      unfold pr_l4
      rw [ca, cb, if_pos ⟨⟨yq, yq2⟩, hT⟩]
      exact wk_.z p14c
    refine blame 3 (m + 2) (by decide) (by decide) (by omega) (by omega) (late _ _ (by decide) f1 w4) (fun Q hq => head Q ?_)
    rw [if_neg na, if_neg nb]
    by_cases z : a = b
    · rw [if_pos (eq_ab.mpr z)]; exact hq
    · rw [if_neg (fun q => z (eq_ab.mp q)), ca, cb, if_neg (cT.resolve_left z)]; exact ⟨ia, ib, hq⟩
  have nab : ¬ a = b := fun z => cT (Or.inl z)
  have lf : σ 13 1 a b = -1 := Decidable.byContradiction fun z => cT (Or.inr z)
  have e4 : pr_l4 B t v m ρ3 ra rb = ρ3 := by
    unfold pr_l4
    rw [ca, cb, if_neg]
    rintro ⟨-, z | z⟩
    · exact nab (eq_ab.mp z)
    · exact z (neg13.mpr lf)
  have vl : tx_i B t (m + 3) < 10000 := (tx_15 ht (hc.e (by omega)) k4).2.2.2.2
  have p14d : ρ7 50 0 0 14 = 0 := by rw [e7, e4]; unfold pr_l7; rw [sx_u_row _ _ _ _ _ _ (by decide), pr_l6_r (by decide)]; exact p14c
  by_cases cW : tx_i B t (m + 3) < 1 ∨ 9 < tx_i B t (m + 3)
  · have w5 : wk_ (nI 5) (tx_j B t (m + 3)) (pr_b B t (m + 3) ρ7 1 9) := by
      have : pr_b B t (m + 3) ρ7 1 9 = pr_w ρ7 5 (tx_j B t (m + 3)) := by unfold pr_b; exact if_pos cW
      rw [this]; exact wk_.z p14d
    have w6 : wk_ (nI 5) (tx_j B t (m + 3)) ρ2 := by rw [e2, eV]; exact wk_.n (wk_.u (wk_.n w5) (by decide))
    refine blame 5 (m + 3) (by decide) (by decide) (by omega) (by omega) w6 (fun Q hq => head Q ?_)
    rw [if_neg na, if_neg nb, if_neg (fun q => nab (eq_ab.mp q)), ca, cb, if_pos lf]
    refine ⟨ia, ib, ?_⟩
    by_cases z : tx_i B t (m + 3) < 1
    · rw [if_pos (show nI (tx_i B t (m + 3)) < 1 from nI_lt (b := 1) z (by decide))]; exact hq
    · rw [if_neg (show ¬ nI (tx_i B t (m + 3)) < 1 from nI_nlt (b := 1) (by omega) (by omega)), if_neg (show ¬ nI (tx_i B t (m + 3)) ≤ 9 from nI_ge (a := 9) (by omega) (by omega))]; exact hq
  -- all is well
  have e5 : pr_b B t (m + 3) ρ7 1 9 = ρ7 := by unfold pr_b; exact if_neg cW
  rw [e5] at eV
  obtain ⟨c, ec⟩ : ∃ c, c = tx_i B t (m + 3) := ⟨_, rfl⟩
  obtain ⟨σ2, eσ⟩ : ∃ z, z = cc_l σ l a b c := ⟨_, rfl⟩
  have s8 : ∀ j, ¬ j = 1 → σ2 8 1 0 j = σ 8 1 0 j := fun j hj => by rw [eσ]; unfold cc_l; rw [sx_u_at, if_neg (by omega), sx_u_row _ _ _ _ _ _ (by omega), sx_u_row _ _ _ _ _ _ (by omega), sx_u_row _ _ _ _ _ _ (by omega), sx_u_row _ _ _ _ _ _ (by omega), sx_u_row _ _ _ _ _ _ (by omega)]
  have s81 : σ2 8 1 0 1 = nI (l + 1) := by rw [eσ]; unfold cc_l; rw [sx_u_at]; simp
  have s9 : ∀ j, σ2 9 1 0 j = if j = l then nI a else σ 9 1 0 j := fun j => by rw [eσ]; unfold cc_l; rw [sx_u_row _ _ _ _ _ _ (by omega), sx_u_row _ _ _ _ _ _ (by omega), sx_u_row _ _ _ _ _ _ (by omega), sx_u_row _ _ _ _ _ _ (by omega), sx_u_row _ _ _ _ _ _ (by omega), sx_u_at]; simp
  have s10 : ∀ j, σ2 10 1 0 j = if j = l then nI b else σ 10 1 0 j := fun j => by rw [eσ]; unfold cc_l; rw [sx_u_row _ _ _ _ _ _ (by omega), sx_u_row _ _ _ _ _ _ (by omega), sx_u_row _ _ _ _ _ _ (by omega), sx_u_row _ _ _ _ _ _ (by omega), sx_u_at, sx_u_row _ _ _ _ _ _ (by omega)]; simp
  have s11 : ∀ j, σ2 11 1 0 j = if j = l then nI c else σ 11 1 0 j := fun j => by rw [eσ]; unfold cc_l; rw [sx_u_row _ _ _ _ _ _ (by omega), sx_u_row _ _ _ _ _ _ (by omega), sx_u_row _ _ _ _ _ _ (by omega), sx_u_at, sx_u_row _ _ _ _ _ _ (by omega), sx_u_row _ _ _ _ _ _ (by omega)]; simp
  have s13 : ∀ i j, σ2 13 1 i j = if (i = a ∧ j = b) ∨ (i = b ∧ j = a) then nI l else σ 13 1 i j := fun i j => by
    rw [eσ]; unfold cc_l
    rw [sx_u_row _ _ _ _ _ _ (by omega), sx_u_at, sx_u_at, sx_u_row _ _ _ _ _ _ (by omega), sx_u_row _ _ _ _ _ _ (by omega), sx_u_row _ _ _ _ _ _ (by omega)]
    by_cases z1 : i = b ∧ j = a
    · rw [if_pos ⟨rfl, rfl, z1.1, z1.2⟩, if_pos (Or.inr z1)]
    · rw [if_neg (fun q => z1 ⟨q.2.2.1, q.2.2.2⟩)]
      by_cases z2 : i = a ∧ j = b
      · rw [if_pos ⟨rfl, rfl, z2.1, z2.2⟩, if_pos (Or.inl z2)]
      · rw [if_neg (fun q => z2 ⟨q.2.2.1, q.2.2.2⟩), if_neg (fun q => by rcases q with q | q; exact z2 q; exact z1 q)]
  have so : ∀ k n q, ¬ ((k = 8 ∨ k = 9 ∨ k = 10 ∨ k = 11 ∨ k = 13) ∧ n = 1) → σ2 k n q = σ k n q := fun k n q z => by rw [eσ]; unfold cc_l; rw [sx_u_row _ _ _ _ _ _ (by omega), sx_u_row _ _ _ _ _ _ (by omega), sx_u_row _ _ _ _ _ _ (by omega), sx_u_row _ _ _ _ _ _ (by omega), sx_u_row _ _ _ _ _ _ (by omega), sx_u_row _ _ _ _ _ _ (by omega)]
  have fσ : cc_f σ σ2 := by rw [eσ]; unfold cc_l; exact (((((cc_f.rf.u (by omega)).u (by omega)).u (by omega)).u (by omega)).u (by omega)).u (by omega)
  have both : 0 ≤ ra ∧ 0 ≤ rb := ⟨yq, yq2⟩
  -- the reference's tables
  have t0 : ∀ k n q, ¬ k = 50 → ¬ k = 63 → ρ2 k n q = ρ7 k n q := fun k n q z1 z2 => by rw [e2, pr_n_r z1, eV, sx_u_row _ _ _ _ _ _ (by omega), pr_n_r z1]
  have t7 : ρ7 = sx_u (sx_u (sx_u (sx_u (sx_u ρ3 61 0 0 (16 * v + l) ra) 62 0 0 (16 * v + l) rb) 64 0 0 (49 * v + 7 * a + b) (nI l)) 64 0 0 (49 * v + 7 * b + a) (nI l)) 59 0 0 v (nI (l + 1)) := by rw [e7, e4]; unfold pr_l7 pr_l6; rw [if_pos both, ca, cb]
  have t61 : ∀ j, ρ2 61 0 0 j = if j = 16 * v + l then nI a else ρ 61 0 0 j := fun j => by rw [t0 61 0 0 (by decide) (by decide), t7, sx_u_row _ _ _ _ _ _ (by omega), sx_u_row _ _ _ _ _ _ (by omega), sx_u_row _ _ _ _ _ _ (by omega), sx_u_row _ _ _ _ _ _ (by omega), sx_u_at, r3 61 0 0 (by decide), eA]; simp
  have t62 : ∀ j, ρ2 62 0 0 j = if j = 16 * v + l then nI b else ρ 62 0 0 j := fun j => by rw [t0 62 0 0 (by decide) (by decide), t7, sx_u_row _ _ _ _ _ _ (by omega), sx_u_row _ _ _ _ _ _ (by omega), sx_u_row _ _ _ _ _ _ (by omega), sx_u_at, sx_u_row _ _ _ _ _ _ (by omega), r3 62 0 0 (by decide), eB]; simp
  have t63 : ∀ j, ρ2 63 0 0 j = if j = 16 * v + l then nI c else ρ 63 0 0 j := fun j => by rw [e2, pr_n_r (by decide), eV, sx_u_at, pr_n_r (by decide), t7, sx_u_row _ _ _ _ _ _ (by omega), sx_u_row _ _ _ _ _ _ (by omega), sx_u_row _ _ _ _ _ _ (by omega), sx_u_row _ _ _ _ _ _ (by omega), sx_u_row _ _ _ _ _ _ (by omega), r3 63 0 0 (by decide), ec]; simp
  have t64 : ∀ i j, i < 7 → j < 7 → ρ2 64 0 0 (49 * v + 7 * i + j) = if (i = a ∧ j = b) ∨ (i = b ∧ j = a) then nI l else ρ 64 0 0 (49 * v + 7 * i + j) := fun i j hi hj => by
    rw [t0 64 0 0 (by decide) (by decide), t7, sx_u_row _ _ _ _ _ _ (by omega), sx_u_at, sx_u_at, sx_u_row _ _ _ _ _ _ (by omega), sx_u_row _ _ _ _ _ _ (by omega), r3 64 0 0 (by decide)]
    by_cases z1 : i = b ∧ j = a
    · rw [if_pos ⟨rfl, rfl, rfl, by rw [z1.1, z1.2]⟩, if_pos (Or.inr z1)]
    · rw [if_neg (fun q => z1 (by have := q.2.2.2; omega))]
      by_cases z2 : i = a ∧ j = b
      · rw [if_pos ⟨rfl, rfl, rfl, by rw [z2.1, z2.2]⟩, if_pos (Or.inl z2)]
      · rw [if_neg (fun q => z2 (by have := q.2.2.2; omega)), if_neg (fun q => by rcases q with q | q; exact z2 q; exact z1 q)]
  have tO : ∀ k, k = 65 ∨ k = 66 → ρ2 k 0 0 = ρ k 0 0 := fun k hk => by rw [t0 k 0 0 (by omega) (by omega), t7, sx_u_row _ _ _ _ _ _ (by omega), sx_u_row _ _ _ _ _ _ (by omega), sx_u_row _ _ _ _ _ _ (by omega), sx_u_row _ _ _ _ _ _ (by omega), sx_u_row _ _ _ _ _ _ (by omega), r3 k 0 0 (by omega)]
  refine ⟨σ2, ρ2, θ, fun Q hQ => head Q ?_, wR, fσ, g2, pr_l.rf, ⟨nN, y.symm⟩, h2', Or.inl ⟨by rw [so 3 0 0 (by omega)]; exact h3, by rw [so 3 0 0 (by omega)], ?_, ?_⟩⟩
  · rw [if_neg na, if_neg nb, if_neg (fun q => nab (eq_ab.mp q)), ca, cb, if_pos lf]
    refine ⟨ia, ib, ?_⟩
    rw [if_neg (show ¬ nI (tx_i B t (m + 3)) < 1 from nI_nlt (b := 1) (by omega) (by omega)), if_pos (show nI (tx_i B t (m + 3)) ≤ 9 from nI_le (b := 9) (by omega) (by decide)), eA, eB, ← ec]
    refine C_addLink k6 d1.2 (by omega) (by omega) ?_
    rw [← eσ]; exact hQ
  · rw [e2, pr_n_14, eV, sx_u_row _ _ _ _ _ _ (by decide), pr_n_14]; exact p14d
  · refine ⟨⟨d0.1, by omega, d0.2.2⟩, ⟨by rw [s8 0 (by decide)]; exact d1.1, s81⟩, ⟨by rw [s8 7 (by decide)]; exact d2.1, by rw [s8 7 (by decide), tO 65 (by decide)]; exact d2.2⟩, fun i hi => ?_, ?_, fun i j hi hj => ?_, fun i hi => ?_, fun k hk => ?_, fun i hi => ?_⟩
    · rw [so 14 1 0 (by omega), tO 66 (by decide)]; exact d3 i hi
    · rw [so 14 1 0 (by omega)]; exact d4
    · rw [s13 i j, t64 i j hi hj]
      by_cases z : (i = a ∧ j = b) ∨ (i = b ∧ j = a)
      · rw [if_pos z, if_pos z]
        refine ⟨rfl, Or.inr ⟨by omega, by omega, l, by omega, rfl, ?_⟩⟩
        rw [s9 l, s10 l, if_pos rfl, if_pos rfl]
        rcases z with ⟨z1, z2⟩ | ⟨z1, z2⟩
        · exact Or.inl ⟨by rw [z1], by rw [z2]⟩
        · exact Or.inr ⟨by rw [z2], by rw [z1]⟩
      · rw [if_neg z, if_neg z]
        obtain ⟨q1, q2⟩ := d5 i j hi hj
        refine ⟨q1, ?_⟩
        rcases q2 with q2 | ⟨q2, q3, k, q4, q5, q6⟩
        · exact Or.inl q2
        · refine Or.inr ⟨q2, q3, k, by omega, q5, ?_⟩
          rw [s9 k, s10 k, if_neg (by omega), if_neg (by omega)]; exact q6
    · rw [s13 i i, if_neg (by omega)]; exact d6 i hi
    · rw [s9 k, s10 k, s11 k, t61, t62, t63]
      by_cases z : k = l
      · rw [if_pos z, if_pos z, if_pos z, if_pos (by omega), if_pos (by omega), if_pos (by omega)]
        refine ⟨rfl, rfl, rfl, ⟨c, by omega, by omega, rfl⟩, a, b, ha, hb, nab, rfl, rfl, ?_, ?_⟩
        · rw [s13 a b, if_pos (Or.inl ⟨rfl, rfl⟩), z]
        · rw [s13 b a, if_pos (Or.inr ⟨rfl, rfl⟩), z]
      · rw [if_neg z, if_neg z, if_neg z, if_neg (by omega), if_neg (by omega), if_neg (by omega)]
        obtain ⟨q1, q2, q3, q4, a', b', q5, q6, q7, q8, q9, q10, q11⟩ := d7 k (by omega)
        refine ⟨q1, q2, q3, q4, a', b', q5, q6, q7, q8, q9, ?_, ?_⟩
        · rw [s13 a' b', if_neg]
          · exact q10
          · rintro (⟨z1, z2⟩ | ⟨z1, z2⟩)
            · rw [z1, z2, lf] at q10; exact nI_pos (n := k) (by omega) (by rw [← q10]; decide)
            · rw [z1, z2] at q11; rw [lf] at q11; exact nI_pos (n := k) (by omega) (by rw [← q11]; decide)
        · rw [s13 b' a', if_neg]
          · exact q11
          · rintro (⟨z1, z2⟩ | ⟨z1, z2⟩)
            · rw [z1, z2, lf] at q11; exact nI_pos (n := k) (by omega) (by rw [← q11]; decide)
            · rw [z1, z2] at q10; rw [lf] at q10; exact nI_pos (n := k) (by omega) (by rw [← q10]; decide)
    · rw [so 15 0 0 (by omega)]; exact d8 i hi
end DRAFTB
