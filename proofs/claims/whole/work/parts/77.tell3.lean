/-- a link between two that are there: twice? -/
def pr_l4 (B : Nat → Int32) (t v m : Nat) (ρ : sx_M) (ra rb : Int32) : sx_M := if (0 ≤ ra ∧ 0 ≤ rb) ∧ (ra = rb ∨ ¬ ρ 64 0 0 (49 * v + 7 * ra.toNatClampNeg + rb.toNatClampNeg) < 0) then pr_w ρ 3 (tx_j B t (m + 2)) else ρ
/-- a link is told -/
def pr_l6 (v l : Nat) (ρ : sx_M) (ra rb : Int32) : sx_M := if 0 ≤ ra ∧ 0 ≤ rb then sx_u (sx_u (sx_u (sx_u ρ 61 0 0 (16 * v + l) ra) 62 0 0 (16 * v + l) rb) 64 0 0 (49 * v + 7 * ra.toNatClampNeg + rb.toNatClampNeg) (nI l)) 64 0 0 (49 * v + 7 * rb.toNatClampNeg + ra.toNatClampNeg) (nI l) else sx_u (sx_u ρ 61 0 0 (16 * v + l) ra) 62 0 0 (16 * v + l) rb
def pr_l7 (v l : Nat) (ρ : sx_M) (ra rb : Int32) : sx_M := sx_u (pr_l6 v l ρ ra rb) 59 0 0 v (nI (l + 1))
section TELLC
variable {t nt v m p l : Nat} {σ σ2 ρ ρ2 : sx_M} {θ θ2 : sx_L} {B : Nat → Int32}
theorem pr_l4_g {ra rb : Int32} : pr_g v ρ (pr_l4 B t v m ρ ra rb) := by
  unfold pr_l4; split
  · exact pr_w_g _ _
  · exact pr_g.rf
theorem pr_C.l4 (h : pr_C B t nt v m p l ρ θ) {i : Nat} {ra rb : Int32} : pr_C B t nt v m p l (pr_l4 B t v i ρ ra rb) θ := by
  unfold pr_l4; split
  · exact h.w _ _
  · exact h
theorem pr_l6_r {ra rb : Int32} {k n q : Nat} (h : ¬ (k = 61 ∨ k = 62 ∨ k = 64)) : pr_l6 v l ρ ra rb k n q = ρ k n q := by
  unfold pr_l6; split
  · rw [sx_u_row _ _ _ _ _ _ (by omega), sx_u_row _ _ _ _ _ _ (by omega), sx_u_row _ _ _ _ _ _ (by omega), sx_u_row _ _ _ _ _ _ (by omega)]
  · rw [sx_u_row _ _ _ _ _ _ (by omega), sx_u_row _ _ _ _ _ _ (by omega)]
theorem pr_l7_g {ra rb : Int32} (hl : l < 16) (ha : ra = -1 ∨ ∃ a, a < 7 ∧ ra = nI a) (hb : rb = -1 ∨ ∃ b, b < 7 ∧ rb = nI b) : pr_g v ρ (pr_l7 v l ρ ra rb) := by
  unfold pr_l7
  refine pr_g.u ?_ (Or.inr (Or.inl ⟨Or.inr (Or.inl rfl), rfl⟩))
  have g1 : pr_g v ρ (sx_u (sx_u ρ 61 0 0 (16 * v + l) ra) 62 0 0 (16 * v + l) rb) := (pr_g.rf.u (Or.inr (Or.inr (Or.inl ⟨Or.inl rfl, by omega, by omega⟩)))).u (Or.inr (Or.inr (Or.inl ⟨Or.inr (Or.inl rfl), by omega, by omega⟩)))
  unfold pr_l6; split
  · rename_i c
    rcases ha with ha | ⟨a, ha, ea⟩
    · rw [ha] at c; exact absurd c.1 (by decide)
    rcases hb with hb | ⟨b, hb, eb⟩
    · rw [hb] at c; exact absurd c.2 (by decide)
    rw [ea, eb, nI_clamp (n := a) (by omega), nI_clamp (n := b) (by omega)]
    rw [ea, eb] at g1
    exact (g1.u (Or.inr (Or.inr (Or.inr (Or.inl ⟨rfl, by omega, by omega⟩))))).u (Or.inr (Or.inr (Or.inr (Or.inl ⟨rfl, by omega, by omega⟩))))
  · exact g1
theorem pr_m_7 (h : pr_C B t nt v m p l ρ θ) (x : Int64) : pr_m θ v x p 0 = -1 ∨ ∃ a, a < p ∧ pr_m θ v x p 0 = nI a := by
  rcases pr_m_v (θ := θ) (v := v) (x := x) p 0 with z | ⟨a, -, a2, a3, -⟩
  · exact Or.inl z
  · exact Or.inr ⟨a, by omega, a3⟩
/-- from the two posts on -/
theorem R_linkTail (h : pr_C B t nt v m p l ρ θ) (hl16 : l < 16) {i : Nat} (hi : i + 2 < nt) {ra rb : Int32} (ha : ra = -1 ∨ ∃ a, a < p ∧ ra = nI a) (hb : rb = -1 ∨ ∃ b, b < p ∧ rb = nI b) {Q : sx_M → sx_L → Prop}
    (hq : wp_Mo_bounded (1 : Int32) (9 : Int32) (pr_l7 v l (pr_l4 B t v i ρ ra rb) ra rb) θ (fun r4 σ4 τ4 => vp_in (nI (16 * v + l)) 32 ∧ (∀ σ6 : sx_M, σ6 = sx_u σ4 63 0 0 (16 * v + l) r4 → (Q σ6 τ4)))) :
    (if ρ 50 0 0 12 ≤ 0 then (if ra < 0 then (wp_Mo_tellLink_b35 Q ra (nI (i + 2)) rb ρ θ) else (if rb < 0 then (wp_Mo_tellLink_b35 Q ra (nI (i + 2)) rb ρ θ) else (wp_Mo_tellLink_b36 Q ra (nI (i + 2)) rb 1 ρ θ))) else (Q ρ θ)) := by
  have hv := h.2.1.2
  have hp := h.2.2.2.2.1.2
  have hb0 := h.b
  have iv : vp_in (nI v) 2 := vp_in_nI hv (by decide)
  have cv : (nI v).toNatClampNeg = v := nI_clamp (by omega)
  have e16 : (16 * nI v) + nI l = nI (16 * v + l) := by rw [show (16 : Int32) * nI v = nI (16 * v) from pk_mul 16 v, nI_add]
  have c16 : (nI (16 * v + l)).toNatClampNeg = 16 * v + l := nI_clamp (by omega)
  have i16 : vp_in (nI (16 * v + l)) 32 := vp_in_nI (by omega) (by decide)
  have l0 : ¬ l = 16 := by omega
  -- the writing of the link
  have b166 : ∀ (ρ4 : sx_M), ρ4 50 0 0 18 = nI v → ρ4 59 0 0 v = nI l → wp_Mo_bounded (1 : Int32) (9 : Int32) (sx_u ρ4 59 0 0 v (nI (l + 1))) θ (fun r4 σ4 τ4 => vp_in (nI (16 * v + l)) 32 ∧ (∀ σ6 : sx_M, σ6 = sx_u σ4 63 0 0 (16 * v + l) r4 → (Q σ6 τ4))) → wp_Mo_tellLink_b166 Q (nI l) ρ4 θ := fun ρ4 h18 h59 hq => by
    unfold wp_Mo_tellLink_b166
    rw [h18, cv, h59, nI_1]
    refine ⟨iv, iv, ?_⟩
    intro _ q; subst q
    rw [show sx_u ρ4 59 0 0 v (nI (l + 1)) 50 0 0 18 = nI v by rw [sx_u_row _ _ _ _ _ _ (by decide)]; exact h18, e16, c16]
    exact hq
  have b76 : ∀ (ρ4 : sx_M) (w0 : Int32), ρ4 50 0 0 18 = nI v → ρ4 59 0 0 v = nI l → ((w0 = 0 ∧ ¬ (0 ≤ ra ∧ 0 ≤ rb)) ∨ (w0 = 1 ∧ 0 ≤ ra ∧ 0 ≤ rb)) → wp_Mo_bounded (1 : Int32) (9 : Int32) (pr_l7 v l ρ4 ra rb) θ (fun r4 σ4 τ4 => vp_in (nI (16 * v + l)) 32 ∧ (∀ σ6 : sx_M, σ6 = sx_u σ4 63 0 0 (16 * v + l) r4 → (Q σ6 τ4))) → wp_Mo_tellLink_b76 Q ra rb w0 ρ4 θ := fun ρ4 w0 h18 h59 hw hq => by
    unfold wp_Mo_tellLink_b76
    rw [h18, cv, h59, e16, c16]
    refine ⟨iv, i16, ?_⟩
    intro σ9 q9
    have h18a : σ9 50 0 0 18 = nI v := by rw [q9, sx_u_row _ _ _ _ _ _ (by decide)]; exact h18
    rw [h18a, e16, c16]
    refine ⟨i16, ?_⟩
    intro σ11 q11
    have h18b : σ11 50 0 0 18 = nI v := by rw [q11, sx_u_row _ _ _ _ _ _ (by decide)]; exact h18a
    have h59b : σ11 59 0 0 v = nI l := by rw [q11, sx_u_row _ _ _ _ _ _ (by decide), q9, sx_u_row _ _ _ _ _ _ (by decide)]; exact h59
    unfold pr_l7 pr_l6 at hq
    rcases hw with ⟨rfl, hw⟩ | ⟨rfl, hw⟩
    · rw [if_pos rfl]
      rw [if_neg hw] at hq
      refine b166 σ11 h18b h59b ?_
      rw [q11, q9]; exact hq
    · rw [if_neg (by decide)]
      rw [if_pos hw] at hq
      rcases ha with ha | ⟨a, ha, ea⟩
      · rw [ha] at hw; exact absurd hw.1 (by decide)
      rcases hb with hb | ⟨b, hb, eb⟩
      · rw [hb] at hw; exact absurd hw.2 (by decide)
      have ca : ra.toNatClampNeg = a := cl_I ea (by omega)
      have cb : rb.toNatClampNeg = b := cl_I eb (by omega)
      rw [ca, cb] at hq
      have x1 : ((49 * (σ11 50 0 0 18)) + (7 * ra)) + rb = nI (49 * v + 7 * a + b) := by rw [h18b, ea, eb]; exact ix_3 49 v 7 a b
      rw [x1, nI_clamp (n := 49 * v + 7 * a + b) (by omega)]
      refine ⟨vp_in_nI (by omega) (by decide), ?_⟩
      intro σ14 q14
      have h18c : σ14 50 0 0 18 = nI v := by rw [q14, sx_u_row _ _ _ _ _ _ (by decide)]; exact h18b
      have x2 : ((49 * (σ14 50 0 0 18)) + (7 * rb)) + ra = nI (49 * v + 7 * b + a) := by rw [h18c, ea, eb]; exact ix_3 49 v 7 b a
      rw [x2, nI_clamp (n := 49 * v + 7 * b + a) (by omega)]
      refine ⟨vp_in_nI (by omega) (by decide), ?_⟩
      intro σ16 q16
      refine b166 σ16 (by rw [q16, sx_u_row _ _ _ _ _ _ (by decide)]; exact h18c) (by rw [q16, sx_u_row _ _ _ _ _ _ (by decide), q14, sx_u_row _ _ _ _ _ _ (by decide)]; exact h59b) ?_
      rw [q16, q14, q11, q9]; exact hq
  have h4 := h.l4 (i := i) (ra := ra) (rb := rb)
  have fin : ∀ w0 : Int32, ((w0 = 0 ∧ ¬ (0 ≤ ra ∧ 0 ≤ rb)) ∨ (w0 = 1 ∧ 0 ≤ ra ∧ 0 ≤ rb)) → wp_Mo_tellLink_b76 Q ra rb w0 (pr_l4 B t v i ρ ra rb) θ := fun w0 hw => b76 _ w0 h4.2.1.1 h4.2.2.2.2.2.1 hw hq
  rw [h.2.2.2.1, if_pos (by decide)]
  have neg : ¬ (0 ≤ ra ∧ 0 ≤ rb) → wp_Mo_tellLink_b35 Q ra (nI (i + 2)) rb ρ θ := fun hn => by
    unfold wp_Mo_tellLink_b35 wp_Mo_tellLink_b36
    rw [if_pos rfl]
    have := fin 0 (Or.inl ⟨rfl, hn⟩)
    unfold pr_l4 at this
    rw [if_neg (fun z => hn z.1)] at this
    exact this
  by_cases c1 : ra < 0
  · rw [if_pos c1]; exact neg (fun z => Int32.not_lt.mpr z.1 c1)
  · rw [if_neg c1]
    by_cases c2 : rb < 0
    · rw [if_pos c2]; exact neg (fun z => Int32.not_lt.mpr z.2 c2)
    · rw [if_neg c2]
      have hw : 0 ≤ ra ∧ 0 ≤ rb := ⟨Int32.not_lt.mp c1, Int32.not_lt.mp c2⟩
      have f1 := fin 1 (Or.inr ⟨rfl, hw⟩)
      rcases ha with ha | ⟨a, ha, ea⟩
      · rw [ha] at hw; exact absurd hw.1 (by decide)
      rcases hb with hb | ⟨b, hb, eb⟩
      · rw [hb] at hw; exact absurd hw.2 (by decide)
      have ca : ra.toNatClampNeg = a := cl_I ea (by omega)
      have cb : rb.toNatClampNeg = b := cl_I eb (by omega)
      unfold pr_l4 at f1
      rw [ca, cb] at f1
      have w70 : ∀ ρ5 : sx_M, ρ5 = pr_w ρ 3 (tx_j B t (i + 2)) → wp_Mo_tellLink_b76 Q ra rb 1 ρ5 θ → wp_Mo_tellLink_b70 Q ra (nI (i + 2)) rb 1 ρ θ := fun ρ5 e5 hq5 => by
        unfold wp_Mo_tellLink_b70
        refine R_wrong h (k := 3) rfl (by decide) rfl hi ?_
        rw [← e5]; exact hq5
      unfold wp_Mo_tellLink_b36
      rw [if_neg (by decide)]
      by_cases c3 : ra = rb
      · rw [if_pos c3]
        rw [if_pos ⟨hw, Or.inl c3⟩] at f1
        exact w70 _ rfl f1
      · rw [if_neg c3]
        have x1 : ((49 * (ρ 50 0 0 18)) + (7 * ra)) + rb = nI (49 * v + 7 * a + b) := by rw [h.2.1.1, ea, eb]; exact ix_3 49 v 7 a b
        rw [x1, nI_clamp (n := 49 * v + 7 * a + b) (by omega)]
        refine ⟨vp_in_nI (by omega) (by decide), ?_⟩
        by_cases c4 : ρ 64 0 0 (49 * v + 7 * a + b) < 0
        · rw [if_pos c4]
          rw [if_neg (fun z => by rcases z.2 with q | q; exact c3 q; exact q c4)] at f1
          exact f1
        · rw [if_neg c4]
          rw [if_pos ⟨hw, Or.inr c4⟩] at f1
          exact w70 _ rfl f1
/-- a link's tell -/
theorem R_tellLink (ht : t ≤ 2000) (h : pr_C B t nt v m p l ρ θ) (ho : tx_o B t m = 1) {s : Nat} :
    ∃ ρ2, (∀ Q : sx_M → sx_L → Prop, Q ρ2 θ → wp_Mo_tellOne ρ θ Q) ∧ (pr_B B t v (sy_y (tx_o B t) m s (sy_l s) p l) ρ ρ2 θ θ ∨
      (sy_y (tx_o B t) m s (sy_l s) p l = sy_y (tx_o B t) (m + 5) 2 (sy_l 2) p (l + 1) ∧ (m + 5 ≤ 400 ∧ tx_o B t (m + 1) = 14 ∧ tx_o B t (m + 2) = 14 ∧ tx_o B t (m + 3) = 15 ∧ tx_o B t (m + 4) = 16 ∧ l < 16) ∧
        ∃ ra rb ρ3, ra = pr_m θ v (tx_nm B t (m + 1)) p 0 ∧ rb = pr_m θ v (tx_nm B t (m + 2)) p 0 ∧ ρ3 = pr_n (pr_q B t (m + 2) (pr_n (pr_q B t (m + 1) (pr_n ρ m) ra) (m + 1)) rb) (m + 2) ∧
          ρ2 = pr_n (sx_u (pr_n (pr_b B t (m + 3) (pr_l7 v l (pr_l4 B t v m ρ3 ra rb) ra rb) 1 9) (m + 3)) 63 0 0 (16 * v + l) (nI (tx_i B t (m + 3)))) (m + 4))) := by
  have hb := h.b
  have hv := h.2.1.2
  have hl16 := h.2.2.2.2.2.2
  have o17 : tx_o B t m ≠ 17 := by omega
  have bd : ∀ (Q : sx_M → sx_L → Prop) (ρ : sx_M), wp_Mo_tellLink ρ θ (fun σ23 τ23 => wp_Mo_tellOne_b222 Q σ23 τ23) → pr_bd Q (nI (20 + 1)) ρ θ := fun Q ρ hq => by unfold pr_bd; rw [if_neg (show ¬ nI (20 + 1) = 20 by decide), if_pos (show nI (20 + 1) = 21 from rfl)]; exact hq
  have F2 : ∀ (Q : sx_M → sx_L → Prop) (ρ : sx_M) (k : Nat) (r : Int32) (x : Int32), 1 ≤ k → k < 100 → ρ 50 0 0 12 = nI k → Q ρ θ → (if ρ 50 0 0 12 ≤ 0 then (if r < 0 then (wp_Mo_tellLink_b35 (fun σ23 τ23 => wp_Mo_tellOne_b222 Q σ23 τ23) r x (-1) ρ θ) else (if (-1 : Int32) < 0 then (wp_Mo_tellLink_b35 (fun σ23 τ23 => wp_Mo_tellOne_b222 Q σ23 τ23) r x (-1) ρ θ) else (wp_Mo_tellLink_b36 (fun σ23 τ23 => wp_Mo_tellOne_b222 Q σ23 τ23) r x (-1) 1 ρ θ))) else (wp_Mo_tellOne_b222 Q ρ θ)) := fun Q ρ k r x h1 h2 h12 hq => by
    rw [h12, if_neg (nI_nle (by omega) (by omega))]
    exact R_222F h1 h2 h12 hq
  have F1 : ∀ (Q : sx_M → sx_L → Prop) (ρ : sx_M) (k : Nat) (r : Int32), 1 ≤ k → k < 100 → ρ 50 0 0 12 = nI k → Q ρ θ → wp_Mo_postTold ρ θ (fun r23 σ23 τ23 => if σ23 50 0 0 12 ≤ 0 then (if r < 0 then (wp_Mo_tellLink_b35 (fun σ23 τ23 => wp_Mo_tellOne_b222 Q σ23 τ23) r (ρ 50 0 0 11) r23 σ23 τ23) else (if r23 < 0 then (wp_Mo_tellLink_b35 (fun σ23 τ23 => wp_Mo_tellOne_b222 Q σ23 τ23) r (ρ 50 0 0 11) r23 σ23 τ23) else (wp_Mo_tellLink_b36 (fun σ23 τ23 => wp_Mo_tellOne_b222 Q σ23 τ23) r (ρ 50 0 0 11) r23 1 σ23 τ23))) else (wp_Mo_tellOne_b222 Q σ23 τ23)) := fun Q ρ k r h1 h2 h12 hq => R_postToldF h1 h2 h12 (F2 Q ρ k r _ h1 h2 h12 hq)
  have F : ∀ (Q : sx_M → sx_L → Prop) (ρ : sx_M) (k : Nat), 1 ≤ k → k < 100 → ρ 50 0 0 12 = nI k → Q ρ θ → wp_Mo_tellLink ρ θ (fun σ23 τ23 => wp_Mo_tellOne_b222 Q σ23 τ23) := fun Q ρ k h1 h2 h12 hq => by
    unfold wp_Mo_tellLink
    exact R_postToldF h1 h2 h12 (F1 Q ρ k (-1) h1 h2 h12 hq)
  have y0 := sy_at (tx_o B t) (s := s) (p := p) (l := l) hb
  rw [ho, if_neg (by decide), if_neg (show ¬ sy_h 1 = 0 by decide), show sy_h 1 = 2 from rfl] at y0
  by_cases c7 : l = 16
  · rw [if_pos (Or.inr (Or.inr ⟨rfl, c7⟩))] at y0
    exact ⟨_, fun Q hQ => R_head h (by decide) ho (fun _ => hQ) (fun z => absurd (Or.inr ⟨rfl, c7⟩) z) (fun z => absurd (Or.inr ⟨rfl, c7⟩) z), Or.inl (pr_B.f y0 (by decide) (by decide) pr_g.rf)⟩
  have nr : ¬ ((1 = 0 ∧ p = 7) ∨ (1 = 1 ∧ l = 16)) := by omega
  by_cases c4 : m = 400
  · rw [if_pos (Or.inl c4)] at y0
    exact ⟨_, fun Q hQ => R_head h (by decide) ho (fun z => absurd z nr) (fun _ z => absurd c4 z) (fun _ _ => bd Q _ (F Q _ 2 (by decide) (by decide) pr_f_12.1 hQ)), Or.inl (pr_B.f y0 (by decide) (by decide) pr_g.rf)⟩
  rw [if_neg (by omega), if_neg (show ¬ (1 : Nat) = 0 by decide), if_pos rfl] at y0
  replace y0 : sy_y (tx_o B t) m s (sy_l s) p l = sy_y (tx_o B t) (m + 1) 2 0 p (l + 1) := y0
  have h1 := h.n o17 c4
  have hb1 := h1.b
  have st : ∀ (Q : sx_M → sx_L → Prop), wp_Mo_tellLink (pr_n ρ m) θ (fun σ23 τ23 => wp_Mo_tellOne_b222 Q σ23 τ23) → wp_Mo_tellOne ρ θ Q := fun Q hq => R_head h (by decide) ho (fun z => absurd z nr) (fun _ _ => bd Q _ hq) (fun _ z => absurd z c4)
  by_cases c1 : tx_o B t (m + 1) = 14
  case neg =>
    have y1 := sy_in0 (tx_o B t) (m := m + 1) (s := 2) (me := 0) (p := p) (l := l + 1) hb1 (by decide) c1
    refine ⟨_, fun Q hQ => st Q ?_, Or.inl (pr_B.g (y0.trans y1) (by decide) (by decide) (pr_n_g (m := m)) pr_l.rf)⟩
    unfold wp_Mo_tellLink
    exact R_postTold h1 (fun _ => F1 Q _ 1 (-1) (by decide) (by decide) pr_f_12.1 hQ) (fun z => absurd z c1) (fun z => absurd z c1)
  have y1 := sy_in1 (tx_o B t) (m := m + 1) (s := 2) (me := 0) (p := p) (l := l + 1) hb1 (by decide) c1
  obtain ⟨ra, era⟩ : ∃ r, r = pr_m θ v (tx_nm B t (m + 1)) p 0 := ⟨_, rfl⟩
  have ha := pr_m_7 h1 (tx_nm B t (m + 1))
  rw [← era] at ha
  have hq1 := h1.q ra (i := m + 1)
  have gq1 : pr_g v ρ (pr_q B t (m + 1) (pr_n ρ m) ra) := pr_n_g.tr (pr_q_g _)
  by_cases c5 : m + 1 = 400
  · rw [if_pos c5] at y1
    refine ⟨_, fun Q hQ => st Q ?_, Or.inl (pr_B.g (y0.trans y1) (by decide) (by decide) gq1 pr_l.rf)⟩
    unfold wp_Mo_tellLink
    refine R_postTold h1 (fun z => absurd c1 z) (fun _ z => absurd c5 z) (fun _ _ => ?_)
    rw [← era]
    exact F1 Q _ 2 ra (by decide) (by decide) pr_f_12.1 hQ
  rw [if_neg c5] at y1
  have h2 := hq1.n (by omega) c5
  have hb2 := h2.b
  have g2 := gq1.tr (pr_n_g (v := v) (m := m + 1))
  have st2 : ∀ (Q : sx_M → sx_L → Prop), wp_Mo_postTold (pr_n (pr_q B t (m + 1) (pr_n ρ m) ra) (m + 1)) θ (fun r23 σ23 τ23 => if σ23 50 0 0 12 ≤ 0 then (if ra < 0 then (wp_Mo_tellLink_b35 (fun σ23 τ23 => wp_Mo_tellOne_b222 Q σ23 τ23) ra (nI (m + 2)) r23 σ23 τ23) else (if r23 < 0 then (wp_Mo_tellLink_b35 (fun σ23 τ23 => wp_Mo_tellOne_b222 Q σ23 τ23) ra (nI (m + 2)) r23 σ23 τ23) else (wp_Mo_tellLink_b36 (fun σ23 τ23 => wp_Mo_tellOne_b222 Q σ23 τ23) ra (nI (m + 2)) r23 1 σ23 τ23))) else (wp_Mo_tellOne_b222 Q σ23 τ23)) → wp_Mo_tellOne ρ θ Q := fun Q hq => by
    refine st Q ?_
    unfold wp_Mo_tellLink
    refine R_postTold h1 (fun z => absurd c1 z) (fun _ _ => ?_) (fun _ z => absurd z c5)
    rw [← era, show pr_n (pr_q B t (m + 1) (pr_n ρ m) ra) (m + 1) 50 0 0 11 = nI (m + 2) from h2.2.2.1.1]
    exact hq
  by_cases c2 : tx_o B t (m + 2) = 14
  case neg =>
    have y2 := sy_in0 (tx_o B t) (m := m + 1 + 1) (s := 2) (me := 0 + 1) (p := p) (l := l + 1) hb2 (by decide) c2
    refine ⟨_, fun Q hQ => st2 Q ?_, Or.inl (pr_B.g (y0.trans (y1.trans y2)) (by decide) (by decide) g2 pr_l.rf)⟩
    exact R_postTold h2 (fun _ => F2 Q _ 1 ra _ (by decide) (by decide) pr_f_12.1 hQ) (fun z => absurd z c2) (fun z => absurd z c2)
  have y2 := sy_in1 (tx_o B t) (m := m + 1 + 1) (s := 2) (me := 0 + 1) (p := p) (l := l + 1) hb2 (by decide) c2
  obtain ⟨rb, erb⟩ : ∃ r, r = pr_m θ v (tx_nm B t (m + 2)) p 0 := ⟨_, rfl⟩
  have hbb := pr_m_7 h1 (tx_nm B t (m + 2))
  rw [← erb] at hbb
  have hq2 := h2.q rb (i := m + 2)
  have gq2 : pr_g v ρ (pr_q B t (m + 2) (pr_n (pr_q B t (m + 1) (pr_n ρ m) ra) (m + 1)) rb) := g2.tr (pr_q_g _)
  have F3 : ∀ (Q : sx_M → sx_L → Prop) (ρ : sx_M) (k : Nat), 1 ≤ k → k < 100 → ρ 50 0 0 12 = nI k → Q ρ θ → (if ρ 50 0 0 12 ≤ 0 then (if ra < 0 then (wp_Mo_tellLink_b35 (fun σ23 τ23 => wp_Mo_tellOne_b222 Q σ23 τ23) ra (nI (m + 2)) rb ρ θ) else (if rb < 0 then (wp_Mo_tellLink_b35 (fun σ23 τ23 => wp_Mo_tellOne_b222 Q σ23 τ23) ra (nI (m + 2)) rb ρ θ) else (wp_Mo_tellLink_b36 (fun σ23 τ23 => wp_Mo_tellOne_b222 Q σ23 τ23) ra (nI (m + 2)) rb 1 ρ θ))) else (wp_Mo_tellOne_b222 Q ρ θ)) := fun Q ρ k h1 h2 h12 hq => by
    rw [h12, if_neg (nI_nle (by omega) (by omega))]
    exact R_222F h1 h2 h12 hq
  by_cases c6 : m + 2 = 400
  · rw [if_pos c6] at y2
    refine ⟨_, fun Q hQ => st2 Q ?_, Or.inl (pr_B.g (y0.trans (y1.trans y2)) (by decide) (by decide) gq2 pr_l.rf)⟩
    refine R_postTold h2 (fun z => absurd c2 z) (fun _ z => absurd c6 z) (fun _ _ => ?_)
    rw [show pr_m θ v (tx_nm B t (m + 1 + 1)) p 0 = rb from erb.symm]
    exact F3 Q _ 2 (by decide) (by decide) pr_f_12.1 hQ
  rw [if_neg c6] at y2
  have h3 := hq2.n (fun z => by have := c2.symm.trans z; omega) c6
  have hb3 := h3.b
  obtain ⟨ρ3, e3⟩ : ∃ z, z = pr_n (pr_q B t (m + 2) (pr_n (pr_q B t (m + 1) (pr_n ρ m) ra) (m + 1)) rb) (m + 2) := ⟨_, rfl⟩
  replace h3 : pr_C B t nt v (m + 3) p l ρ3 θ := by rw [e3]; exact h3
  have g3 : pr_g v ρ ρ3 := by rw [e3]; exact gq2.tr pr_n_g
  have h4 := h3.l4 (i := m) (ra := ra) (rb := rb)
  have g4 : pr_g v ρ (pr_l4 B t v m ρ3 ra rb) := g3.tr pr_l4_g
  have hp7 := h.2.2.2.2.1.2
  have w7 : ∀ {r : Int32}, (r = -1 ∨ ∃ a, a < p ∧ r = nI a) → (r = -1 ∨ ∃ a, a < 7 ∧ r = nI a) := fun hr => by
    rcases hr with z | ⟨a, a1, a2⟩
    · exact Or.inl z
    · exact Or.inr ⟨a, by omega, a2⟩
  obtain ⟨ρ7, e7⟩ : ∃ z, z = pr_l7 v l (pr_l4 B t v m ρ3 ra rb) ra rb := ⟨_, rfl⟩
  have g47 : pr_g v (pr_l4 B t v m ρ3 ra rb) ρ7 := by rw [e7]; exact pr_l7_g (by omega) (w7 ha) (w7 hbb)
  have g7 := g4.tr g47
  have h7 : pr_C B t nt v (m + 3) p (l + 1) ρ7 θ := by
    refine h4.mv g47 pr_l.rf ?_ h4.2.2.1.2 ?_ ?_ h4.2.2.2.2.1.2 ?_ (by omega)
    · rw [e7]; unfold pr_l7; rw [sx_u_row _ _ _ _ _ _ (by decide), pr_l6_r (by decide)]; exact h4.2.2.1.1
    · rw [e7]; unfold pr_l7; rw [sx_u_row _ _ _ _ _ _ (by decide), pr_l6_r (by decide)]; exact h4.2.2.2.1
    · rw [e7]; unfold pr_l7; rw [sx_u_row _ _ _ _ _ _ (by decide), pr_l6_r (by decide)]; exact h4.2.2.2.2.1.1
    · rw [e7]; unfold pr_l7; rw [sx_u_at]; simp
  have hb7 := h7.b
  have i16 : vp_in (nI (16 * v + l)) 32 := vp_in_nI (by omega) (by decide)
  have st3 : ∀ (Q : sx_M → sx_L → Prop), wp_Mo_bounded (1 : Int32) (9 : Int32) ρ7 θ (fun r4 σ4 τ4 => wp_Mo_tellOne_b222 Q (sx_u σ4 63 0 0 (16 * v + l) r4) τ4) → wp_Mo_tellOne ρ θ Q := fun Q hq => by
    refine st2 Q (R_postTold h2 (fun z => absurd c2 z) (fun _ _ => ?_) (fun _ z => absurd z c6))
    rw [show pr_m θ v (tx_nm B t (m + 1 + 1)) p 0 = rb from erb.symm, show pr_n (pr_q B t (m + 1 + 1) (pr_n (pr_q B t (m + 1) (pr_n ρ m) ra) (m + 1)) rb) (m + 1 + 1) = ρ3 from e3.symm]
    refine R_linkTail h3 (by omega) (by have := h3.2.2.1.2; omega) ha hbb ?_
    rw [← e7]
    have e : (fun (r4 : Int32) (σ4 : sx_M) (τ4 : sx_L) => vp_in (nI (16 * v + l)) 32 ∧ (∀ σ6 : sx_M, σ6 = sx_u σ4 63 0 0 (16 * v + l) r4 → (wp_Mo_tellOne_b222 Q σ6 τ4))) = fun r4 σ4 τ4 => wp_Mo_tellOne_b222 Q (sx_u σ4 63 0 0 (16 * v + l) r4) τ4 := by
      funext r4 σ4 τ4
      exact propext ⟨fun z => z.2 _ rfl, fun z => ⟨i16, fun _ q => by subst q; exact z⟩⟩
    show wp_Mo_bounded (1 : Int32) (9 : Int32) ρ7 θ (fun (r4 : Int32) (σ4 : sx_M) (τ4 : sx_L) => vp_in (nI (16 * v + l)) 32 ∧ (∀ σ6 : sx_M, σ6 = sx_u σ4 63 0 0 (16 * v + l) r4 → (wp_Mo_tellOne_b222 Q σ6 τ4)))
    rw [e]; exact hq
  have g63 : ∀ {a b : sx_M} {x : Int32}, pr_g v a b → pr_g v a (sx_u b 63 0 0 (16 * v + l) x) := fun hg => hg.u (Or.inr (Or.inr (Or.inl ⟨Or.inr (Or.inr rfl), by omega, by omega⟩)))
  have bad : ∀ {a : sx_M} {j i : Nat} {x : Int32}, pr_g v ρ a → sy_y (tx_o B t) m s (sy_l s) p l = (j, i) → 1 ≤ j → j ≤ 2 → pr_B B t v (sy_y (tx_o B t) m s (sy_l s) p l) ρ (sx_u (pr_f a j (tx_j B t i)) 63 0 0 (16 * v + l) x) θ θ := fun {a j i x} hg ey h1 h2 => by
    obtain ⟨b1, b2, b3, b4, b5, b6⟩ := pr_B.g (B := B) (t := t) (θ := θ) ey h1 h2 hg pr_l.rf
    exact ⟨g63 b1, b2, b3, b4, by rw [sx_u_row _ _ _ _ _ _ (by decide)]; exact b5, by rw [sx_u_row _ _ _ _ _ _ (by decide)]; exact b6⟩
  by_cases c3 : tx_o B t (m + 3) = 15
  case neg =>
    have y3 := sy_in0 (tx_o B t) (m := m + 1 + 1 + 1) (s := 2) (me := 0 + 1 + 1) (p := p) (l := l + 1) hb3 (by decide) c3
    refine ⟨_, fun Q hQ => st3 Q (R_bounded ht h7 (by decide) (by decide) (a := 1) (b := 9) rfl rfl (fun _ => ?_) (fun z => absurd z c3) (fun z => absurd z c3)), Or.inl (bad (x := nI 1) g7 (y0.trans (y1.trans (y2.trans y3))) (by decide) (by decide))⟩
    exact R_222F (k := 1) (by decide) (by decide) (by rw [sx_u_row _ _ _ _ _ _ (by decide)]; exact pr_f_12.1) hQ
  have y3 := sy_in1 (tx_o B t) (m := m + 1 + 1 + 1) (s := 2) (me := 0 + 1 + 1) (p := p) (l := l + 1) hb3 (by decide) c3
  have hk := h7.k 1 9 (i := m + 3)
  have gk : pr_g v ρ (pr_b B t (m + 3) ρ7 1 9) := g7.tr (pr_b_g _ _)
  by_cases c8 : m + 3 = 400
  · rw [if_pos c8] at y3
    refine ⟨_, fun Q hQ => st3 Q (R_bounded ht h7 (by decide) (by decide) (a := 1) (b := 9) rfl rfl (fun z => absurd c3 z) (fun _ z => absurd c8 z) (fun _ _ => ?_)), Or.inl (bad (x := nI (tx_i B t (m + 3))) gk (y0.trans (y1.trans (y2.trans y3))) (by decide) (by decide))⟩
    exact R_222F (k := 2) (by decide) (by decide) (by rw [sx_u_row _ _ _ _ _ _ (by decide)]; exact pr_f_12.1) hQ
  rw [if_neg c8] at y3
  have h8 := hk.n (by omega) c8
  have hb8 := h8.b
  obtain ⟨V, eV⟩ : ∃ z, z = sx_u (pr_n (pr_b B t (m + 3) ρ7 1 9) (m + 3)) 63 0 0 (16 * v + l) (nI (tx_i B t (m + 3))) := ⟨_, rfl⟩
  have gV0 : pr_g v (pr_n (pr_b B t (m + 3) ρ7 1 9) (m + 3)) V := by rw [eV]; exact g63 pr_g.rf
  have gV : pr_g v ρ V := (gk.tr pr_n_g).tr gV0
  have hV : pr_C B t nt v (m + 4) p (l + 1) V θ := by
    refine h8.mv gV0 pr_l.rf ?_ h8.2.2.1.2 ?_ ?_ h8.2.2.2.2.1.2 ?_ h8.2.2.2.2.2.2
    · rw [eV, sx_u_row _ _ _ _ _ _ (by decide)]; exact h8.2.2.1.1
    · rw [eV, sx_u_row _ _ _ _ _ _ (by decide)]; exact h8.2.2.2.1
    · rw [eV, sx_u_row _ _ _ _ _ _ (by decide)]; exact h8.2.2.2.2.1.1
    · rw [eV, sx_u_row _ _ _ _ _ _ (by decide)]; exact h8.2.2.2.2.2.1
  have st4 : ∀ (Q : sx_M → sx_L → Prop), wp_Mo_tellOne_b222 Q V θ → wp_Mo_tellOne ρ θ Q := fun Q hq => st3 Q (R_bounded ht h7 (by decide) (by decide) (a := 1) (b := 9) rfl rfl (fun z => absurd c3 z) (fun _ _ => by rw [eV] at hq; exact hq) (fun _ z => absurd z c8))
  by_cases c9 : tx_o B t (m + 4) = 16
  case neg =>
    have y4 := sy_in0 (tx_o B t) (m := m + 1 + 1 + 1 + 1) (s := 2) (me := 0 + 1 + 1 + 1) (p := p) (l := l + 1) hb8 (by decide) c9
    exact ⟨_, fun Q hQ => st4 Q (R_must hV (fun _ => hQ) (fun z => absurd z c9) (fun z => absurd z c9)), Or.inl (pr_B.g (y0.trans (y1.trans (y2.trans (y3.trans y4)))) (by decide) (by decide) gV pr_l.rf)⟩
  have y4 := sy_in1 (tx_o B t) (m := m + 1 + 1 + 1 + 1) (s := 2) (me := 0 + 1 + 1 + 1) (p := p) (l := l + 1) hb8 (by decide) c9
  by_cases c10 : m + 4 = 400
  · rw [if_pos c10] at y4
    exact ⟨_, fun Q hQ => st4 Q (R_must hV (fun z => absurd c9 z) (fun _ z => absurd c10 z) (fun _ _ => hQ)), Or.inl (pr_B.g (y0.trans (y1.trans (y2.trans (y3.trans y4)))) (by decide) (by decide) gV pr_l.rf)⟩
  · rw [if_neg c10] at y4
    refine ⟨_, fun Q hQ => st4 Q (R_must hV (fun z => absurd c9 z) (fun _ _ => hQ) (fun _ z => absurd z c10)), Or.inr ⟨y0.trans (y1.trans (y2.trans (y3.trans y4))), ⟨by omega, c1, c2, c3, c9, by omega⟩, ra, rb, ρ3, era, erb, e3, ?_⟩⟩
    rw [eV, e7]
end TELLC
