/-- what follows a tell's first word -/
def pr_bd (Q : sx_M → sx_L → Prop) (v2 : Int32) (σ10 : sx_M) (τ10 : sx_L) : Prop := if v2 = 20 then (wp_Mo_tellPost σ10 τ10 (fun σ24 τ24 => wp_Mo_tellOne_b222 Q σ24 τ24)) else (if v2 = 21 then (wp_Mo_tellLink σ10 τ10 (fun σ23 τ23 => wp_Mo_tellOne_b222 Q σ23 τ23)) else (if v2 = 31 then (wp_Mo_is (32 : Int32) σ10 τ10 (fun r18 σ18 τ18 => if r18 = 0 then (wp_Mo_is (33 : Int32) σ18 τ18 (fun r20 σ20 τ20 => if r20 = 0 then (wp_Mo_fail (1 : Int32) σ20 τ20 (fun σ22 τ22 => wp_Mo_tellOne_b144 Q σ22 τ22)) else (wp_Mo_tellOne_b144 Q σ20 τ20))) else (wp_Mo_tellOne_b144 Q σ18 τ18))) else (wp_Mo_leastOf (v2 - 22) σ10 τ10 (fun r14 σ14 τ14 => wp_Mo_mostOf (v2 - 22) σ14 τ14 (fun r15 σ15 τ15 => wp_Mo_bounded r14 r15 σ15 τ15 (fun r16 σ16 τ16 => if v2 - 22 = 0 then (wp_Mo_tellOne_b221 Q ((9 * (σ16 50 0 0 18)) + (v2 - 22)) (r16 - (r16 - r16 / 2 * 2)) σ16 τ16) else (wp_Mo_tellOne_b221 Q ((9 * (σ16 50 0 0 18)) + (v2 - 22)) r16 σ16 τ16)))))))
/-- what the syntax says from a token on -/
def sy_y (o : Nat → Nat) (m s me p l : Nat) : Nat × Nat := sy_ o (401 - m) m s me p l
theorem sy_in0 (o : Nat → Nat) {m s me p l : Nat} (hm : m ≤ 400) (h : me < sy_l s) (c : ¬ sy_i (o m) (sy_c s me)) : sy_y o m s me p l = (1, m) := by
  obtain ⟨f, e⟩ : ∃ f, 401 - m = f + 1 := ⟨400 - m, by omega⟩
  unfold sy_i at c
  unfold sy_y
  rw [e, sy_, if_neg (fun z => by have := z.2; omega), if_neg (by omega), if_pos c]
theorem sy_in1 (o : Nat → Nat) {m s me p l : Nat} (hm : m ≤ 400) (h : me < sy_l s) (c : sy_i (o m) (sy_c s me)) : sy_y o m s me p l = if m = 400 then (2, m) else sy_y o (m + 1) s (me + 1) p l := by
  obtain ⟨f, e⟩ : ∃ f, 401 - m = f + 1 := ⟨400 - m, by omega⟩
  unfold sy_i at c
  unfold sy_y
  rw [e, show 401 - (m + 1) = f by omega, sy_, if_neg (fun z => by have := z.2; omega), if_neg (by omega), if_neg (fun z => z c)]
theorem sy_at (o : Nat → Nat) {m s p l : Nat} (hm : m ≤ 400) : sy_y o m s (sy_l s) p l = if o m = 17 then (0, m) else if sy_h (o m) = 0 then (1, m) else if m = 400 ∨ (o m = 0 ∧ p = 7) ∨ (o m = 1 ∧ l = 16) then (2, m) else sy_y o (m + 1) (sy_h (o m)) 0 (p + if o m = 0 then 1 else 0) (l + if o m = 1 then 1 else 0) := by
  obtain ⟨f, e⟩ : ∃ f, 401 - m = f + 1 := ⟨400 - m, by omega⟩
  unfold sy_y
  rw [e, show 401 - (m + 1) = f by omega, sy_]
  by_cases c : o m = 17
  · rw [if_pos ⟨c, rfl⟩, if_pos c]
  · rw [if_neg (fun z => c z.1), if_neg c, if_pos (Nat.le_refl _)]
section TELL
variable {t nt v m p l : Nat} {σ σ2 ρ ρ2 : sx_M} {θ θ2 : sx_L} {B : Nat → Int32}
theorem tx_rk_i : ∀ s, s ≤ 18 → (tx_rk s = 1 ↔ s = 14) ∧ (tx_rk s = 2 ↔ s = 15) ∧ (tx_rk s = 4 ↔ s = 16) ∧ (tx_rk s = 0 ↔ s = 17) ∧ (tx_rk s = 32 ↔ s = 12) ∧ (tx_rk s = 33 ↔ s = 13) := by decide +kernel
theorem tx_rk_w {s : Nat} (h : s ≤ 11) : tx_rk s = 20 + s := by unfold tx_rk; rw [if_pos (by omega)]
theorem R_start (h : pr_C B t nt v m p l ρ θ) (hk : 11 < tx_o B t m) {Q : sx_M → sx_L → Prop} (hq : Q (pr_f ρ 1 (tx_j B t m)) θ) : wp_Mo_tellOne ρ θ Q := by
  have hb := h.b
  have os : tx_o B t m ≤ 18 := tx_s_le B t (tx_j B t m)
  have ek := (h.1.2.2.1 m h.2.2.1.2).1
  have rl := tx_rk_lt (tx_o B t m) os
  have rk : tx_rk (tx_o B t m) < 20 ∨ 31 < tx_rk (tx_o B t m) := by
    unfold tx_rk
    split
    · omega
    · split
      · omega
      · split
        · omega
        · split
          · omega
          · split <;> omega
  have key : wp_Mo_tellOne_b27 Q (nI m) (nI (tx_rk (tx_o B t m))) ρ θ := by
    unfold wp_Mo_tellOne_b27
    refine R_fail h (k := 1) rfl ?_
    have ne : ∀ j : Nat, 20 ≤ j → j ≤ 31 → ¬ nI (tx_rk (tx_o B t m)) = nI j := fun j h1 h2 z => by have := (nI_eq (by omega) (by omega)).mp z; omega
    unfold wp_Mo_tellOne_b32 wp_Mo_tellOne_b52 wp_Mo_tellOne_b77
    rw [if_neg (show ¬ nI (tx_rk (tx_o B t m)) = 20 from ne 20 (by decide) (by decide)), if_neg (show ¬ nI (tx_rk (tx_o B t m)) = 21 from ne 21 (by decide) (by decide)), show pr_f ρ 1 (tx_j B t m) 50 0 0 12 = nI 1 by unfold pr_f; rw [sx_u_at, if_neg (by omega), sx_u_at]; simp, if_neg (by decide)]
    exact hq
  unfold wp_Mo_tellOne
  rw [h.2.2.1.1, nI_clamp (n := m) (by omega), ek]
  refine ⟨vp_in_nI (by omega) (by decide), ?_⟩
  by_cases c : tx_rk (tx_o B t m) < 20
  · rw [if_pos (show nI (tx_rk (tx_o B t m)) < 20 from nI_lt (b := 20) c (by decide))]; exact key
  · rw [if_neg (show ¬ nI (tx_rk (tx_o B t m)) < 20 from nI_nlt (b := 20) (by omega) (by omega)), if_neg (show ¬ nI (tx_rk (tx_o B t m)) ≤ 31 from nI_ge (a := 31) (by omega) (by omega))]; exact key
theorem R_head (h : pr_C B t nt v m p l ρ θ) {k : Nat} (hk : k ≤ 11) (ho : tx_o B t m = k) {Q : sx_M → sx_L → Prop} (h3 : (k = 0 ∧ p = 7) ∨ (k = 1 ∧ l = 16) → Q (pr_f ρ 2 (tx_j B t m)) θ) (h1 : ¬ ((k = 0 ∧ p = 7) ∨ (k = 1 ∧ l = 16)) → ¬ m = 400 → pr_bd Q (nI (20 + k)) (pr_n ρ m) θ) (h2 : ¬ ((k = 0 ∧ p = 7) ∨ (k = 1 ∧ l = 16)) → m = 400 → pr_bd Q (nI (20 + k)) (pr_f ρ 2 (tx_j B t m)) θ) : wp_Mo_tellOne ρ θ Q := by
  have hb := h.b
  have ek := (h.1.2.2.1 m h.2.2.1.2).1
  rw [ho, tx_rk_w hk] at ek
  have hv := h.2.1.2
  have e : ∀ j : Nat, j < 100 → (nI (20 + k) = nI j ↔ 20 + k = j) := fun j hj => nI_eq (by omega) (by omega)
  have iv : vp_in (nI v) 2 := vp_in_nI hv (by decide)
  have b77 : ¬ ((k = 0 ∧ p = 7) ∨ (k = 1 ∧ l = 16)) → wp_Mo_tellOne_b77 Q (nI (20 + k)) ρ θ := fun hn => by
    unfold wp_Mo_tellOne_b77
    rw [h.2.2.2.1, if_pos (by decide)]
    exact R_goes h (h1 hn) (h2 hn)
  have b72 : ((k = 0 ∧ p = 7) ∨ (k = 1 ∧ l = 16)) → wp_Mo_tellOne_b72 Q (nI m) (nI (20 + k)) ρ θ := fun hy => by
    unfold wp_Mo_tellOne_b72 wp_Mo_tooMany wp_Mo_tellOne_b77
    intro _ q; subst q
    rw [nI_clamp (n := m) (by omega), sx_u_row _ _ _ _ _ _ (show ¬ (54 = 50 ∧ 0 = 0 ∧ 0 = 0) by decide), (h.1.2.2.1 m h.2.2.1.2).2.1]
    refine ⟨vp_in_nI (by omega) (by decide), ?_⟩
    intro _ q; subst q
    show if pr_f ρ 2 (tx_j B t m) 50 0 0 12 ≤ 0 then _ else _
    rw [show pr_f ρ 2 (tx_j B t m) 50 0 0 12 = nI 2 by unfold pr_f; rw [sx_u_at, if_neg (by omega), sx_u_at]; simp, if_neg (by decide)]
    exact h3 hy
  unfold wp_Mo_tellOne
  rw [h.2.2.1.1, nI_clamp (n := m) (by omega), ek, if_neg (show ¬ nI (20 + k) < 20 from nI_nlt (b := 20) (by omega) (by omega)), if_pos (show nI (20 + k) ≤ 31 from nI_le (b := 31) (by omega) (by decide))]
  refine ⟨vp_in_nI (by omega) (by decide), ?_⟩
  have b52 : ¬ (k = 0 ∧ p = 7) → wp_Mo_tellOne_b52 Q (nI m) (nI (20 + k)) ρ θ := fun hn => by
    unfold wp_Mo_tellOne_b52
    by_cases c1 : k = 1
    · rw [if_pos (show nI (20 + k) = 21 from (e 21 (by decide)).mpr (by omega)), h.2.1.1, nI_clamp (n := v) (by omega), h.2.2.2.2.2.1]
      refine ⟨iv, ?_⟩
      have hl := h.2.2.2.2.2.2
      by_cases c2 : l = 16
      · rw [if_pos (show nI l = 16 by rw [c2]; rfl)]; exact b72 (Or.inr ⟨c1, c2⟩)
      · rw [if_neg (show ¬ nI l = 16 from fun z => c2 ((nI_eq (b := 16) (by omega) (by decide)).mp z))]; exact b77 (by omega)
    · rw [if_neg (show ¬ nI (20 + k) = 21 from fun z => by have := (e 21 (by decide)).mp z; omega)]; exact b77 (by omega)
  unfold wp_Mo_tellOne_b32
  by_cases c0 : k = 0
  · rw [if_pos (show nI (20 + k) = 20 from (e 20 (by decide)).mpr (by omega)), h.2.1.1, nI_clamp (n := v) (by omega), h.2.2.2.2.1.1]
    refine ⟨iv, ?_⟩
    have hp := h.2.2.2.2.1.2
    by_cases c2 : p = 7
    · rw [if_pos (show nI p = 7 by rw [c2]; rfl)]; exact b72 (Or.inl ⟨c0, c2⟩)
    · rw [if_neg (show ¬ nI p = 7 from fun z => c2 ((nI_eq (b := 7) (by omega) (by decide)).mp z))]; exact b52 (by omega)
  · rw [if_neg (show ¬ nI (20 + k) = 20 from fun z => by have := (e 20 (by decide)).mp z; omega)]; exact b52 (by omega)
/-- a fault stands -/
theorem pr_f_12 {k x : Nat} : pr_f ρ k x 50 0 0 12 = nI k ∧ pr_f ρ k x 50 0 0 13 = nI x := by
  unfold pr_f
  exact ⟨by rw [sx_u_at, if_neg (by omega), sx_u_at]; simp, by rw [sx_u_at]; simp⟩
/-- a bad end -/
def pr_B (B : Nat → Int32) (t v : Nat) (R : Nat × Nat) (ρ ρ2 : sx_M) (θ θ2 : sx_L) : Prop := pr_g v ρ ρ2 ∧ pr_l v θ θ2 ∧ 1 ≤ R.1 ∧ R.1 ≤ 2 ∧ ρ2 50 0 0 12 = nI R.1 ∧ ρ2 50 0 0 13 = nI (tx_j B t R.2)
theorem pr_B.f {R : Nat × Nat} {k i : Nat} (hR : R = (k, i)) (h1 : 1 ≤ k) (h2 : k ≤ 2) (hg : pr_g v ρ ρ2) : pr_B B t v R ρ (pr_f ρ2 k (tx_j B t i)) θ θ := by
  subst hR
  exact ⟨hg.tr (pr_f_g _ _), pr_l.rf, h1, h2, pr_f_12.1, pr_f_12.2⟩
theorem pr_B.g {R : Nat × Nat} {k i : Nat} (hR : R = (k, i)) (h1 : 1 ≤ k) (h2 : k ≤ 2) (hg : pr_g v ρ ρ2) (hl : pr_l v θ θ2) : pr_B B t v R ρ (pr_f ρ2 k (tx_j B t i)) θ θ2 := by
  subst hR
  exact ⟨hg.tr (pr_f_g _ _), hl, h1, h2, pr_f_12.1, pr_f_12.2⟩
theorem R_222F {k : Nat} (hk : 1 ≤ k) (hk2 : k < 100) (h12 : ρ 50 0 0 12 = nI k) {Q : sx_M → sx_L → Prop} (h : Q ρ θ) : wp_Mo_tellOne_b222 Q ρ θ := R_mustF hk hk2 h12 h
/-- a post's tell -/
theorem R_tellPost (h : pr_C B t nt v m p l ρ θ) (ho : tx_o B t m = 0) {s : Nat} :
    ∃ ρ2 θ2, (∀ Q : sx_M → sx_L → Prop, Q ρ2 θ2 → wp_Mo_tellOne ρ θ Q) ∧ (pr_B B t v (sy_y (tx_o B t) m s (sy_l s) p l) ρ ρ2 θ θ2 ∨
      (sy_y (tx_o B t) m s (sy_l s) p l = sy_y (tx_o B t) (m + 3) 1 (sy_l 1) (p + 1) l ∧ (m + 3 ≤ 400 ∧ tx_o B t (m + 1) = 14 ∧ tx_o B t (m + 2) = 16 ∧ p < 7) ∧ θ2 = sx_ul θ 60 (7 * v + p) (tx_nm B t (m + 1)) ∧
        ρ2 = pr_n (pr_n (sx_u (if pr_m θ v (tx_nm B t (m + 1)) p 0 < 0 then pr_n ρ m else pr_w (pr_n ρ m) 3 (tx_j B t (m + 1))) 58 0 0 v (nI (p + 1))) (m + 1)) (m + 2))) := by
  have hb := h.b
  have hv := h.2.1.2
  have hp7 := h.2.2.2.2.1.2
  have o17 : tx_o B t m ≠ 17 := by omega
  have r20 : pr_bd = pr_bd := rfl
  have bd : ∀ (Q : sx_M → sx_L → Prop) (ρ : sx_M) (θ : sx_L), wp_Mo_tellPost ρ θ (fun σ24 τ24 => wp_Mo_tellOne_b222 Q σ24 τ24) → pr_bd Q (nI (20 + 0)) ρ θ := fun Q ρ θ hq => by unfold pr_bd; rw [if_pos (show nI (20 + 0) = 20 from rfl)]; exact hq
  have F : ∀ (Q : sx_M → sx_L → Prop) (ρ : sx_M) (θ : sx_L) (k : Nat), 1 ≤ k → k < 100 → ρ 50 0 0 12 = nI k → Q ρ θ → wp_Mo_tellPost ρ θ (fun σ24 τ24 => wp_Mo_tellOne_b222 Q σ24 τ24) := fun Q ρ θ k h1 h2 h12 hq => by
    unfold wp_Mo_tellPost
    refine R_isF (by rw [h12]; exact nI_ne0 (by omega) (by omega)) ?_
    rw [if_pos rfl]
    exact R_failF h1 h2 h12 (R_222F h1 h2 h12 hq)
  have y0 := sy_at (tx_o B t) (s := s) (p := p) (l := l) hb
  rw [ho, if_neg (by decide), if_neg (show ¬ sy_h 0 = 0 by decide), show sy_h 0 = 1 from rfl] at y0
  by_cases c7 : p = 7
  · rw [if_pos (Or.inr (Or.inl ⟨rfl, c7⟩))] at y0
    exact ⟨_, θ, fun Q hQ => R_head h (by decide) ho (fun _ => hQ) (fun z => absurd (Or.inl ⟨rfl, c7⟩) z) (fun z => absurd (Or.inl ⟨rfl, c7⟩) z), Or.inl (pr_B.f y0 (by decide) (by decide) pr_g.rf)⟩
  have nr : ¬ ((0 = 0 ∧ p = 7) ∨ (0 = 1 ∧ l = 16)) := by omega
  by_cases c4 : m = 400
  · rw [if_pos (Or.inl c4)] at y0
    exact ⟨_, θ, fun Q hQ => R_head h (by decide) ho (fun z => absurd z nr) (fun _ z => absurd c4 z) (fun _ _ => bd Q _ _ (F Q _ _ 2 (by decide) (by decide) pr_f_12.1 hQ)), Or.inl (pr_B.f y0 (by decide) (by decide) pr_g.rf)⟩
  rw [if_neg (by omega), if_pos rfl, if_neg (show ¬ (0 : Nat) = 1 by decide)] at y0
  replace y0 : sy_y (tx_o B t) m s (sy_l s) p l = sy_y (tx_o B t) (m + 1) 1 0 (p + 1) l := y0
  have h1 := h.n o17 c4
  have hb1 := h1.b
  have st : ∀ (Q : sx_M → sx_L → Prop), wp_Mo_tellPost (pr_n ρ m) θ (fun σ24 τ24 => wp_Mo_tellOne_b222 Q σ24 τ24) → wp_Mo_tellOne ρ θ Q := fun Q hq => R_head h (by decide) ho (fun z => absurd z nr) (fun _ _ => bd Q _ _ hq) (fun _ z => absurd z c4)
  by_cases c1 : tx_o B t (m + 1) = 14
  · have y1 := sy_in1 (tx_o B t) (m := m + 1) (s := 1) (me := 0) (p := p + 1) (l := l) hb1 (by decide) c1
    -- the name is told
    obtain ⟨W, eW⟩ : ∃ W, W = if pr_m θ v (tx_nm B t (m + 1)) p 0 < 0 then pr_n ρ m else pr_w (pr_n ρ m) 3 (tx_j B t (m + 1)) := ⟨_, rfl⟩
    have hW : pr_C B t nt v (m + 1) p l W θ := by
      rw [eW]; split
      · exact h1
      · exact h1.w _ _
    have gW : pr_g v ρ W := by
      rw [eW]; split
      · exact pr_n_g
      · exact pr_n_g.tr (pr_w_g _ _)
    obtain ⟨θ2, eθ⟩ : ∃ z, z = sx_ul θ 60 (7 * v + p) (tx_nm B t (m + 1)) := ⟨_, rfl⟩
    have lθ : pr_l v θ θ2 := by
      rw [eθ]
      refine ⟨fun k hk => ?_, fun j hj => ?_⟩
      · unfold sx_ul; exact sx_rl_ne hk
      · rw [sx_ul_at, if_neg (by omega)]
    obtain ⟨V, eV⟩ : ∃ z, z = sx_u W 58 0 0 v (nI (p + 1)) := ⟨_, rfl⟩
    have gV : pr_g v W V := by rw [eV]; exact pr_g.rf.u (Or.inr (Or.inl ⟨Or.inl rfl, rfl⟩))
    have hV : pr_C B t nt v (m + 1) (p + 1) l V θ2 := by
      refine hW.mv gV lθ ?_ hW.2.2.1.2 ?_ ?_ (by omega) ?_ hW.2.2.2.2.2.2
      · rw [eV, sx_u_row _ _ _ _ _ _ (by decide)]; exact hW.2.2.1.1
      · rw [eV, sx_u_row _ _ _ _ _ _ (by decide)]; exact hW.2.2.2.1
      · rw [eV, sx_u_at]; simp
      · rw [eV, sx_u_row _ _ _ _ _ _ (by decide)]; exact hW.2.2.2.2.2.1
    have st2 : ∀ (Q : sx_M → sx_L → Prop), (¬ m + 1 = 400 → wp_Mo_tellOne_b222 Q (pr_n V (m + 1)) θ2) → (m + 1 = 400 → wp_Mo_tellOne_b222 Q (pr_f V 2 (tx_j B t (m + 1))) θ2) → wp_Mo_tellOne ρ θ Q := fun Q q1 q2 => by
      refine st Q ?_
      have en : θ 56 (m + 1) = tx_nm B t (m + 1) := (h1.1.2.2.1 (m + 1) h1.2.2.1.2).2.2.2 (by omega)
      have b39 : wp_Mo_tellPost_b39 (fun σ24 τ24 => wp_Mo_tellOne_b222 Q σ24 τ24) W θ := by
        have e1 : (7 * nI v) + nI p = nI (7 * v + p) := by rw [show (7 : Int32) * nI v = nI (7 * v) from pk_mul 7 v, nI_add]
        have iv : vp_in (nI v) 2 := vp_in_nI hv (by decide)
        unfold wp_Mo_tellPost_b39
        rw [hW.2.1.1, nI_clamp (n := v) (by omega), hW.2.2.2.2.1.1, hW.2.2.1.1, nI_clamp (n := m + 1) (by omega), en, e1, nI_clamp (n := 7 * v + p) (by omega), nI_1]
        refine ⟨iv, vp_in_nI (by omega) (by decide), vp_in_nI (by omega) (by decide), ?_⟩
        intro _ q; rw [← eθ] at q; subst q
        refine ⟨iv, iv, ?_⟩
        intro _ q; rw [← eV] at q; subst q
        exact R_goes hV q1 q2
      unfold wp_Mo_tellPost
      refine R_is h1 (k := 1) rfl (by decide) (fun _ => ?_) (fun z => absurd (by rw [c1]; rfl) z)
      rw [if_neg (by decide), h1.2.2.1.1, nI_clamp (n := m + 1) (by omega), en]
      refine ⟨vp_in_nI (by omega) (by decide), R_named h1 ?_⟩
      by_cases z : pr_m θ v (tx_nm B t (m + 1)) p 0 < 0
      · rw [if_pos z] at eW
        rw [if_pos z, ← eW]; exact b39
      · rw [if_neg z] at eW
        rw [if_neg z]
        refine R_wrong h1 (k := 3) rfl (by decide) h1.2.2.1.1 h1.2.2.1.2 ?_
        rw [← eW]; exact b39
    by_cases c5 : m + 1 = 400
    · rw [if_pos c5] at y1
      refine ⟨_, θ2, fun Q hQ => st2 Q (fun z => absurd c5 z) (fun _ => R_222F (k := 2) (by decide) (by decide) pr_f_12.1 hQ), Or.inl ?_⟩
      exact pr_B.g (y0.trans y1) (by decide) (by decide) (gW.tr gV) lθ
    rw [if_neg c5] at y1
    have h2 := hV.n (by omega) c5
    have hb2 := h2.b
    have bad : ∀ k : Nat, 1 ≤ k → k ≤ 2 → sy_y (tx_o B t) m s (sy_l s) p l = (k, m + 2) → pr_B B t v (sy_y (tx_o B t) m s (sy_l s) p l) ρ (pr_f (pr_n V (m + 1)) k (tx_j B t (m + 2))) θ θ2 := fun k k1 k2 ey => pr_B.g ey k1 k2 ((gW.tr gV).tr pr_n_g) lθ
    by_cases c2 : tx_o B t (m + 2) = 16
    · have y2 := sy_in1 (tx_o B t) (m := m + 1 + 1) (s := 1) (me := 0 + 1) (p := p + 1) (l := l) hb2 (by decide) c2
      by_cases c6 : m + 2 = 400
      · rw [if_pos c6] at y2
        exact ⟨_, θ2, fun Q hQ => st2 Q (fun _ => R_must h2 (fun z => absurd c2 z) (fun _ z => absurd c6 z) (fun _ _ => hQ)) (fun z => absurd z c5), Or.inl (bad 2 (by decide) (by decide) (y0.trans (y1.trans y2)))⟩
      · rw [if_neg c6] at y2
        refine ⟨_, θ2, fun Q hQ => st2 Q (fun _ => R_must h2 (fun z => absurd c2 z) (fun _ _ => hQ) (fun _ z => absurd z c6)) (fun z => absurd z c5), Or.inr ⟨?_, ⟨by omega, c1, c2, by omega⟩, eθ, ?_⟩⟩
        · rw [y0, y1, y2]; rfl
        · rw [eV, eW]
    · have y2 := sy_in0 (tx_o B t) (m := m + 1 + 1) (s := 1) (me := 0 + 1) (p := p + 1) (l := l) hb2 (by decide) c2
      exact ⟨_, θ2, fun Q hQ => st2 Q (fun _ => R_must h2 (fun _ => hQ) (fun z => absurd z c2) (fun z => absurd z c2)) (fun z => absurd z c5), Or.inl (bad 1 (by decide) (by decide) (y0.trans (y1.trans y2)))⟩
  · have y1 := sy_in0 (tx_o B t) (m := m + 1) (s := 1) (me := 0) (p := p + 1) (l := l) hb1 (by decide) c1
    refine ⟨pr_f (pr_n ρ m) 1 (tx_j B t (m + 1)), θ, fun Q hQ => st Q ?_, Or.inl (pr_B.f (y0.trans y1) (by decide) (by decide) pr_n_g)⟩
    unfold wp_Mo_tellPost
    refine R_is h1 (k := 1) rfl (by decide) (fun z => ?_) (fun _ => ?_)
    · exact absurd ((tx_rk_i _ (tx_s_le B t (tx_j B t (m + 1)))).1.mp z) c1
    · rw [if_pos rfl]
      exact R_fail h1 (k := 1) rfl (R_222F (k := 1) (by decide) (by decide) pr_f_12.1 hQ)
end TELL
