/-- what is wrong stays so -/
def wk_ (F : Int32) (w : Nat) (ρ : sx_M) : Prop := ρ 50 0 0 14 = F ∧ ρ 50 0 0 15 = nI w
section ALONE
variable {t nt v m p l : Nat} {σ σ2 ρ ρ2 : sx_M} {θ θ2 : sx_L} {B : Nat → Int32} {F : Int32} {w : Nat}
theorem wk_.n (h : wk_ F w ρ) {m : Nat} : wk_ F w (pr_n ρ m) := by
  unfold pr_n
  exact ⟨by rw [sx_u_at, if_neg (by omega)]; exact h.1, by rw [sx_u_at, if_neg (by omega)]; exact h.2⟩
theorem wk_.u (h : wk_ F w ρ) {k j : Nat} {x : Int32} (hk : ¬ k = 50) : wk_ F w (sx_u ρ k 0 0 j x) := ⟨by rw [sx_u_row _ _ _ _ _ _ (by omega)]; exact h.1, by rw [sx_u_row _ _ _ _ _ _ (by omega)]; exact h.2⟩
theorem wk_.wr (h : wk_ F w ρ) (hF : ¬ F = 0) {k x : Nat} (hx : w < x) (hx2 : x < 2 ^ 30) : wk_ F w (pr_w ρ k x) := by
  unfold pr_w
  rw [h.1, h.2, if_neg]
  · exact h
  · rintro (z | z | ⟨z, -⟩)
    · exact hF z
    · exact nI_nlt (by omega) (by omega) z
    · have := (nI_eq (by omega) (by omega)).mp z; omega
theorem wk_.q (h : wk_ F w ρ) (hF : ¬ F = 0) {i : Nat} {r : Int32} (hx : w < tx_j B t i) (hx2 : tx_j B t i < 2 ^ 30) : wk_ F w (pr_q B t i ρ r) := by
  unfold pr_q; split
  · exact h
  · exact h.wr hF hx hx2
theorem wk_.b (h : wk_ F w ρ) (hF : ¬ F = 0) {i : Nat} {x y : Nat} (hx : w < tx_j B t i) (hx2 : tx_j B t i < 2 ^ 30) : wk_ F w (pr_b B t i ρ x y) := by
  unfold pr_b; split
  · exact h.wr hF hx hx2
  · exact h
theorem wk_.l4 (h : wk_ F w ρ) (hF : ¬ F = 0) {i : Nat} {x y : Int32} (hx : w < tx_j B t (i + 2)) (hx2 : tx_j B t (i + 2) < 2 ^ 30) : wk_ F w (pr_l4 B t v i ρ x y) := by
  unfold pr_l4; split
  · exact h.wr hF hx hx2
  · exact h
theorem wk_.l7 (h : wk_ F w ρ) {x y : Int32} : wk_ F w (pr_l7 v l ρ x y) := by
  unfold pr_l7
  refine wk_.u ?_ (by decide)
  exact ⟨by rw [pr_l6_r (by decide)]; exact h.1, by rw [pr_l6_r (by decide)]; exact h.2⟩
/-- no end ahead of a token that is there -/
theorem pr_C.e (h : pr_C B t nt v m p l ρ θ) : ∀ i, i < m → tx_o B t i ≠ 17 := fun i hi => h.1.2.2.2.1 i (by have := h.2.2.1.2; omega)
theorem pr_C.j (ht : t ≤ 2000) (h : pr_C B t nt v m p l ρ θ) {i k : Nat} (hik : i < k) (hk : k < nt) : tx_j B t i < tx_j B t k ∧ tx_j B t k < 2 ^ 30 := by
  have go : ∀ d i, i + d + 1 < nt → tx_j B t i < tx_j B t (i + d + 1) := by
    intro d
    induction d with
    | zero =>
      intro i hi
      have := tx_j_lt (B := B) ht (m := i) (fun j hj => h.1.2.2.2.1 j (by omega))
      show tx_j B t i < tx_j B t (i + 1)
      omega
    | succ d ih =>
      intro i hi
      have a := ih i (by omega)
      have := tx_j_lt (B := B) ht (m := i + d + 1) (fun j hj => h.1.2.2.2.1 j (by omega))
      rw [show i + (d + 1) + 1 = i + d + 1 + 1 by omega]
      omega
  refine ⟨by have := go (k - i - 1) i (by omega); rw [show i + (k - i - 1) + 1 = k by omega] at this; exact this, ?_⟩
  have := (tx_p_le (B := B) ht k (fun j hj => h.1.2.2.2.1 j (by omega))).2
  omega
/-- one tell of the reference alone -/
theorem R_tellA (ht : t ≤ 2000) (h : pr_C B t nt v m p l ρ θ) (h17 : tx_o B t m ≠ 17) {s : Nat} :
    ∃ ρ2 θ2, (∀ Q : sx_M → sx_L → Prop, Q ρ2 θ2 → wp_Mo_tellOne ρ θ Q) ∧ (pr_B B t v (sy_y (tx_o B t) m s (sy_l s) p l) ρ ρ2 θ θ2 ∨
      ∃ m2 p2 l2 s2, m < m2 ∧ sy_y (tx_o B t) m s (sy_l s) p l = sy_y (tx_o B t) m2 s2 (sy_l s2) p2 l2 ∧ pr_C B t nt v m2 p2 l2 ρ2 θ2 ∧ pr_g v ρ ρ2 ∧ pr_l v θ θ2 ∧ ∀ F w, ¬ F = 0 → w < tx_j B t m → wk_ F w ρ → wk_ F w ρ2) := by
  have hb := h.b
  have os : tx_o B t m ≤ 18 := tx_s_le B t (tx_j B t m)
  have hp7 := h.2.2.2.2.1.2
  by_cases c11 : 11 < tx_o B t m
  · have y0 := sy_at (tx_o B t) (s := s) (p := p) (l := l) hb
    have sh : sy_h (tx_o B t m) = 0 := by unfold sy_h; rw [if_neg (by omega), if_neg (by omega), if_neg (by omega), if_neg (by omega), if_pos (by omega)]
    rw [if_neg h17, if_pos sh] at y0
    exact ⟨_, θ, fun Q hQ => R_start h c11 hQ, Or.inl (pr_B.g y0 (by decide) (by decide) pr_g.rf pr_l.rf)⟩
  by_cases c0 : tx_o B t m = 0
  · obtain ⟨ρ2, θ2, w, o⟩ := R_tellPost h c0 (s := s)
    refine ⟨ρ2, θ2, w, ?_⟩
    rcases o with o | ⟨y, ⟨k1, k2, k3, k4⟩, e1, e2⟩
    · exact Or.inl o
    · have h1 := h.n h17 (by omega)
      have x1 := h1.x (by omega) (by omega)
      obtain ⟨W, eW⟩ : ∃ W, W = if pr_m θ v (tx_nm B t (m + 1)) p 0 < 0 then pr_n ρ m else pr_w (pr_n ρ m) 3 (tx_j B t (m + 1)) := ⟨_, rfl⟩
      rw [← eW] at e2
      have hW : pr_C B t nt v (m + 1) p l W θ := by
        rw [eW]; split
        · exact h1
        · exact h1.w _ _
      have gW : pr_g v ρ W := by
        rw [eW]; split
        · exact pr_n_g
        · exact pr_n_g.tr (pr_w_g _ _)
      have lθ : pr_l v θ θ2 := by
        rw [e1]
        refine ⟨fun k hk => ?_, fun j hj => ?_⟩
        · unfold sx_ul; exact sx_rl_ne hk
        · rw [sx_ul_at, if_neg (by omega)]
      obtain ⟨V, eV⟩ : ∃ z, z = sx_u W 58 0 0 v (nI (p + 1)) := ⟨_, rfl⟩
      rw [← eV] at e2
      have gV : pr_g v W V := by rw [eV]; exact pr_g.rf.u (Or.inr (Or.inl ⟨Or.inl rfl, rfl⟩))
      have hV : pr_C B t nt v (m + 1) (p + 1) l V θ2 := by
        refine hW.mv gV lθ ?_ hW.2.2.1.2 ?_ ?_ (by omega) ?_ hW.2.2.2.2.2.2
        · rw [eV, sx_u_row _ _ _ _ _ _ (by decide)]; exact hW.2.2.1.1
        · rw [eV, sx_u_row _ _ _ _ _ _ (by decide)]; exact hW.2.2.2.1
        · rw [eV, sx_u_at]; simp
        · rw [eV, sx_u_row _ _ _ _ _ _ (by decide)]; exact hW.2.2.2.2.2.1
      have h2 := hV.n (by omega) (by omega)
      have h3 := h2.n (by rw [show m + 1 + 1 = m + 2 from rfl, k3]; decide) (by omega)
      refine Or.inr ⟨m + 3, p + 1, l, 1, by omega, y, by rw [e2]; exact h3, by rw [e2]; exact ((gW.tr gV).tr pr_n_g).tr pr_n_g, lθ, fun F w hF hw hk => ?_⟩
      rw [e2, eV, eW]
      refine wk_.n (wk_.n (wk_.u ?_ (by decide)))
      obtain ⟨j1, j2⟩ := h.j ht (i := m) (k := m + 1) (by omega) h1.2.2.1.2
      split
      · exact hk.n
      · exact (hk.n).wr hF (by omega) j2
  by_cases c1 : tx_o B t m = 1
  · obtain ⟨ρ2, w, o⟩ := R_tellLink ht h c1 (s := s)
    refine ⟨ρ2, θ, w, ?_⟩
    rcases o with o | ⟨y, ⟨k1, k2, k3, k4, k5, k6⟩, ra, rb, ρ3, ea, eb, e3, e2⟩
    · exact Or.inl o
    · have h1 := h.n h17 (by omega)
      have ha := pr_m_7 h1 (tx_nm B t (m + 1))
      have hbb := pr_m_7 h1 (tx_nm B t (m + 2))
      rw [← ea] at ha
      rw [← eb] at hbb
      have h2 := (h1.q ra (i := m + 1)).n (by omega) (by omega)
      have h3 := (h2.q rb (i := m + 2)).n (fun z => by have := k3.symm.trans z; omega) (by omega)
      have g3 : pr_g v ρ ρ3 := by rw [e3]; exact (((pr_n_g.tr (pr_q_g _)).tr pr_n_g).tr (pr_q_g _)).tr pr_n_g
      replace h3 : pr_C B t nt v (m + 3) p l ρ3 θ := by rw [e3]; exact h3
      have h4 := h3.l4 (i := m) (ra := ra) (rb := rb)
      have w7 : ∀ {r : Int32}, (r = -1 ∨ ∃ a, a < p ∧ r = nI a) → (r = -1 ∨ ∃ a, a < 7 ∧ r = nI a) := fun hr => by
        rcases hr with z | ⟨a, a1, a2⟩
        · exact Or.inl z
        · exact Or.inr ⟨a, by omega, a2⟩
      obtain ⟨ρ7, e7⟩ : ∃ z, z = pr_l7 v l (pr_l4 B t v m ρ3 ra rb) ra rb := ⟨_, rfl⟩
      have g47 : pr_g v (pr_l4 B t v m ρ3 ra rb) ρ7 := by rw [e7]; exact pr_l7_g (by omega) (w7 ha) (w7 hbb)
      have g7 : pr_g v ρ ρ7 := (g3.tr pr_l4_g).tr g47
      have h7 : pr_C B t nt v (m + 3) p (l + 1) ρ7 θ := by
        refine h4.mv g47 pr_l.rf ?_ h4.2.2.1.2 ?_ ?_ h4.2.2.2.2.1.2 ?_ (by omega)
        · rw [e7]; unfold pr_l7; rw [sx_u_row _ _ _ _ _ _ (by decide), pr_l6_r (by decide)]; exact h4.2.2.1.1
        · rw [e7]; unfold pr_l7; rw [sx_u_row _ _ _ _ _ _ (by decide), pr_l6_r (by decide)]; exact h4.2.2.2.1
        · rw [e7]; unfold pr_l7; rw [sx_u_row _ _ _ _ _ _ (by decide), pr_l6_r (by decide)]; exact h4.2.2.2.2.1.1
        · rw [e7]; unfold pr_l7; rw [sx_u_at]; simp
      have h8 := (h7.k 1 9 (i := m + 3)).n (by omega) (by omega)
      obtain ⟨V, eV⟩ : ∃ z, z = sx_u (pr_n (pr_b B t (m + 3) ρ7 1 9) (m + 3)) 63 0 0 (16 * v + l) (nI (tx_i B t (m + 3))) := ⟨_, rfl⟩
      have gV0 : pr_g v (pr_n (pr_b B t (m + 3) ρ7 1 9) (m + 3)) V := by rw [eV]; exact pr_g.rf.u (Or.inr (Or.inr (Or.inl ⟨Or.inr (Or.inr rfl), by omega, by omega⟩)))
      have gV : pr_g v ρ V := ((g7.tr (pr_b_g _ _)).tr pr_n_g).tr gV0
      have hV : pr_C B t nt v (m + 4) p (l + 1) V θ := by
        refine h8.mv gV0 pr_l.rf ?_ h8.2.2.1.2 ?_ ?_ h8.2.2.2.2.1.2 ?_ h8.2.2.2.2.2.2
        · rw [eV, sx_u_row _ _ _ _ _ _ (by decide)]; exact h8.2.2.1.1
        · rw [eV, sx_u_row _ _ _ _ _ _ (by decide)]; exact h8.2.2.2.1
        · rw [eV, sx_u_row _ _ _ _ _ _ (by decide)]; exact h8.2.2.2.2.1.1
        · rw [eV, sx_u_row _ _ _ _ _ _ (by decide)]; exact h8.2.2.2.2.2.1
      have h9 := hV.n (by omega) (by omega)
      rw [← e7, ← eV] at e2
      refine Or.inr ⟨m + 5, p, l + 1, 2, by omega, y, by rw [e2]; exact h9, by rw [e2]; exact gV.tr pr_n_g, pr_l.rf, fun F w hF hw hk => ?_⟩
      have q3 := h3.2.2.1.2
      obtain ⟨a1, a2⟩ := h.j ht (i := m) (k := m + 1) (by omega) (by omega)
      obtain ⟨b1, b2⟩ := h.j ht (i := m) (k := m + 2) (by omega) (by omega)
      obtain ⟨d1, d2⟩ := h.j ht (i := m) (k := m + 3) (by omega) (by omega)
      have w3 : wk_ F w ρ3 := by rw [e3]; exact (((((hk.n).q hF (by omega) a2).n).q hF (by omega) b2).n)
      rw [e2, eV, e7]
      exact wk_.n (wk_.u (wk_.n (wk_.b (wk_.l7 (w3.l4 hF (by omega) b2)) hF (by omega) d2)) (by decide))
  by_cases c2 : tx_o B t m = 11
  · obtain ⟨ρ2, w, o⟩ := R_tellGoal h c2 (s := s)
    refine ⟨ρ2, θ, w, ?_⟩
    rcases o with o | ⟨y, ⟨k1, k2, k3⟩, e2⟩
    · exact Or.inl o
    · have h1 := h.n h17 (by omega)
      obtain ⟨V, eV⟩ : ∃ z, z = sx_u (pr_n ρ m) 65 0 0 v (if tx_o B t (m + 1) = 13 then 1 else 0) := ⟨_, rfl⟩
      rw [← eV] at e2
      have gV0 : pr_g v (pr_n ρ m) V := by rw [eV]; exact pr_g.rf.u (Or.inr (Or.inl ⟨Or.inr (Or.inr rfl), rfl⟩))
      have hV : pr_C B t nt v (m + 1) p l V θ := by
        refine h1.mv gV0 pr_l.rf ?_ h1.2.2.1.2 ?_ ?_ h1.2.2.2.2.1.2 ?_ h1.2.2.2.2.2.2
        · rw [eV, sx_u_row _ _ _ _ _ _ (by decide)]; exact h1.2.2.1.1
        · rw [eV, sx_u_row _ _ _ _ _ _ (by decide)]; exact h1.2.2.2.1
        · rw [eV, sx_u_row _ _ _ _ _ _ (by decide)]; exact h1.2.2.2.2.1.1
        · rw [eV, sx_u_row _ _ _ _ _ _ (by decide)]; exact h1.2.2.2.2.2.1
      have h2 := (hV.n (by omega) (by omega)).n (fun z => by have := k3.symm.trans z; omega) (by omega)
      refine Or.inr ⟨m + 3, p, l, 3, by omega, y, by rw [e2]; exact h2, by rw [e2]; exact ((pr_n_g.tr gV0).tr pr_n_g).tr pr_n_g, pr_l.rf, fun F w hF hw hk => ?_⟩
      rw [e2, eV]
      exact wk_.n (wk_.n (wk_.u hk.n (by decide)))
  · obtain ⟨k, ek⟩ : ∃ k, tx_o B t m = k + 2 := ⟨tx_o B t m - 2, by omega⟩
    have k9 : k < 9 := by omega
    obtain ⟨ρ2, w, o⟩ := R_tellNum ht h k9 ek (s := s)
    refine ⟨ρ2, θ, w, ?_⟩
    rcases o with o | ⟨y, ⟨k1, k2, k3⟩, e2⟩
    · exact Or.inl o
    · have h1 := h.n h17 (by omega)
      have h2 := (h1.k (st_lo k) (st_hi k) (i := m + 1)).n (by omega) (by omega)
      obtain ⟨V, eV⟩ : ∃ z, z = sx_u (pr_n (pr_b B t (m + 1) (pr_n ρ m) (st_lo k) (st_hi k)) (m + 1)) 66 0 0 (9 * v + k) (nI (st_v k (tx_i B t (m + 1)))) := ⟨_, rfl⟩
      rw [← eV] at e2
      have gV0 : pr_g v (pr_n (pr_b B t (m + 1) (pr_n ρ m) (st_lo k) (st_hi k)) (m + 1)) V := by rw [eV]; exact pr_g.rf.u (Or.inr (Or.inr (Or.inr (Or.inr ⟨rfl, by omega, by omega⟩))))
      have hV : pr_C B t nt v (m + 2) p l V θ := by
        refine h2.mv gV0 pr_l.rf ?_ h2.2.2.1.2 ?_ ?_ h2.2.2.2.2.1.2 ?_ h2.2.2.2.2.2.2
        · rw [eV, sx_u_row _ _ _ _ _ _ (by decide)]; exact h2.2.2.1.1
        · rw [eV, sx_u_row _ _ _ _ _ _ (by decide)]; exact h2.2.2.2.1
        · rw [eV, sx_u_row _ _ _ _ _ _ (by decide)]; exact h2.2.2.2.2.1.1
        · rw [eV, sx_u_row _ _ _ _ _ _ (by decide)]; exact h2.2.2.2.2.2.1
      have h3 := hV.n (by omega) (by omega)
      refine Or.inr ⟨m + 3, p, l, 4, by omega, y, by rw [e2]; exact h3, by rw [e2]; exact (((pr_n_g.tr (pr_b_g _ _)).tr pr_n_g).tr gV0).tr pr_n_g, pr_l.rf, fun F w hF hw hk => ?_⟩
      obtain ⟨j1, j2⟩ := h.j ht (i := m) (k := m + 1) (by omega) h1.2.2.1.2
      rw [e2, eV]
      exact wk_.n (wk_.u (wk_.n (wk_.b hk.n hF (by omega) j2)) (by decide))
/-- the reference alone, to the end of the text -/
theorem R_alone (ht : t ≤ 2000) : ∀ (d m p l s : Nat) (ρ : sx_M) (θ : sx_L), m + d = 401 → pr_C B t nt v m p l ρ θ →
    ∃ ρ2 θ2, pr_g v ρ ρ2 ∧ pr_l v θ θ2 ∧ ρ2 50 0 0 12 = nI (sy_y (tx_o B t) m s (sy_l s) p l).1 ∧ (sy_y (tx_o B t) m s (sy_l s) p l).1 ≤ 2 ∧ (¬ (sy_y (tx_o B t) m s (sy_l s) p l).1 = 0 → ρ2 50 0 0 13 = nI (tx_j B t (sy_y (tx_o B t) m s (sy_l s) p l).2)) ∧ (∀ F w, ¬ F = 0 → w < tx_j B t m → wk_ F w ρ → (sy_y (tx_o B t) m s (sy_l s) p l).1 = 0 → wk_ F w ρ2) ∧
      ∀ Q : Int32 → sx_M → sx_L → Prop, wp_Mo_read_b100 Q ρ2 θ2 → ∃ f, wp_Mo_read_b78 Q f ρ θ := by
  intro d
  induction d using Nat.strongRecOn with
  | _ d ih =>
    intro m p l s ρ θ hd h
    have hb := h.b
    obtain ⟨-, -, -, k0, -, -⟩ := tx_rk_i (tx_o B t m) (tx_s_le B t (tx_j B t m))
    by_cases c17 : tx_o B t m = 17
    · have y0 := sy_at (tx_o B t) (s := s) (p := p) (l := l) hb
      rw [if_pos c17] at y0
      refine ⟨ρ, θ, pr_g.rf, pr_l.rf, by rw [y0]; exact h.2.2.2.1, by rw [y0]; exact Nat.zero_le _, fun z => absurd (by rw [y0]) z, fun _ _ _ _ q _ => q, fun Q hQ => ⟨1, ?_⟩⟩
      rw [wp_Mo_read_b78, h.2.2.2.1, if_pos rfl]
      refine R_is h (k := 0) rfl (by decide) (fun _ => ?_) (fun z => absurd (k0.mpr c17) z)
      rw [if_neg (by decide)]; exact hQ
    · obtain ⟨ρ1, θ1, w1, o⟩ := R_tellA ht h c17 (s := s)
      have step : ∀ (Q : Int32 → sx_M → sx_L → Prop) f, wp_Mo_read_b78 Q f ρ1 θ1 → wp_Mo_read_b78 Q (f + 1) ρ θ := fun Q f hf => by
        rw [wp_Mo_read_b78, h.2.2.2.1, if_pos rfl]
        refine R_is h (k := 0) rfl (by decide) (fun z => absurd (k0.mp z) c17) (fun _ => ?_)
        rw [if_pos rfl]
        exact w1 _ hf
      rcases o with ⟨b1, b2, b3, b4, b5, b6⟩ | ⟨m2, p2, l2, s2, a1, a2, a3, a4, a5, a6⟩
      · refine ⟨ρ1, θ1, b1, b2, b5, b4, fun _ => b6, fun _ _ _ _ _ z => by omega, fun Q hQ => ⟨2, step Q 1 ?_⟩⟩
        rw [wp_Mo_read_b78, b5, if_neg (nI_ne0 (by omega) (by omega))]; exact hQ
      · have hb2 := a3.b
        obtain ⟨ρ2, θ2, c1, c2, c3, c4, c5, c6, c7⟩ := ih (401 - m2) (by omega) m2 p2 l2 s2 ρ1 θ1 (by omega) a3
        rw [a2]
        refine ⟨ρ2, θ2, a4.tr c1, a5.tr c2, c3, c4, c5, fun F w hF hw hk z => c6 F w hF ?_ (a6 F w hF hw hk) z, fun Q hQ => ?_⟩
        · have := (h.j ht (i := m) (k := m2) a1 a3.2.2.1.2).1; omega
        · obtain ⟨f, hf⟩ := c7 Q hQ
          exact ⟨f + 1, step Q f hf⟩
end ALONE
