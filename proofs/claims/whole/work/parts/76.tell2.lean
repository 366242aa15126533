/-- bounds of the settings -/
def st_lo (k : Nat) : Nat := [2, 0, 1, 0, 0, 1, 2, 0, 0].getD k 0
def st_hi (k : Nat) : Nat := [8, 4, 9, 99, 999, 20, 60, 100, 9999].getD k 0
theorem st_ok : ∀ k, k < 9 → st_lo k < 100 ∧ st_hi k ≤ 9999 ∧ kx_sta 1 k = nI (st_lo k) ∧ kx_sta 2 k = nI (st_hi k) := by decide +kernel
section TELLB
variable {t nt v m p l : Nat} {σ σ2 ρ ρ2 : sx_M} {θ θ2 : sx_L} {B : Nat → Int32}
theorem R_least {k : Nat} (hk : k < 9) {Q : Int32 → sx_M → sx_L → Prop} (h : Q (nI (st_lo k)) ρ θ) : wp_Mo_leastOf (nI k) ρ θ Q := by
  have cs : k = 0 ∨ k = 1 ∨ k = 2 ∨ k = 3 ∨ k = 4 ∨ k = 5 ∨ k = 6 ∨ k = 7 ∨ k = 8 := by omega
  unfold wp_Mo_leastOf wp_Mo_leastOf_b10 wp_Mo_leastOf_b24 wp_Mo_leastOf_b29
  rcases cs with rfl | rfl | rfl | rfl | rfl | rfl | rfl | rfl | rfl
  · rw [if_pos (by decide)]; exact h
  · rw [if_neg (by decide), if_neg (by decide), if_neg (by decide), if_neg (by decide)]; exact h
  · rw [if_neg (by decide), if_neg (by decide), if_pos (by decide)]; exact h
  · rw [if_neg (by decide), if_neg (by decide), if_neg (by decide), if_neg (by decide)]; exact h
  · rw [if_neg (by decide), if_neg (by decide), if_neg (by decide), if_neg (by decide)]; exact h
  · rw [if_neg (by decide), if_neg (by decide), if_neg (by decide), if_pos (by decide)]; exact h
  · rw [if_neg (by decide), if_pos (by decide)]; exact h
  · rw [if_neg (by decide), if_neg (by decide), if_neg (by decide), if_neg (by decide)]; exact h
  · rw [if_neg (by decide), if_neg (by decide), if_neg (by decide), if_neg (by decide)]; exact h
theorem R_most {k : Nat} (hk : k < 9) {Q : Int32 → sx_M → sx_L → Prop} (h : Q (nI (st_hi k)) ρ θ) : wp_Mo_mostOf (nI k) ρ θ Q := by
  have cs : k = 0 ∨ k = 1 ∨ k = 2 ∨ k = 3 ∨ k = 4 ∨ k = 5 ∨ k = 6 ∨ k = 7 ∨ k = 8 := by omega
  unfold wp_Mo_mostOf
  rcases cs with rfl | rfl | rfl | rfl | rfl | rfl | rfl | rfl | rfl
  · rw [if_pos (by decide)]; exact h
  · rw [if_neg (by decide), if_pos (by decide)]; exact h
  · rw [if_neg (by decide), if_neg (by decide), if_pos (by decide)]; exact h
  · rw [if_neg (by decide), if_neg (by decide), if_neg (by decide), if_pos (by decide)]; exact h
  · rw [if_neg (by decide), if_neg (by decide), if_neg (by decide), if_neg (by decide), if_pos (by decide)]; exact h
  · rw [if_neg (by decide), if_neg (by decide), if_neg (by decide), if_neg (by decide), if_neg (by decide), if_pos (by decide)]; exact h
  · rw [if_neg (by decide), if_neg (by decide), if_neg (by decide), if_neg (by decide), if_neg (by decide), if_neg (by decide), if_pos (by decide)]; exact h
  · rw [if_neg (by decide), if_neg (by decide), if_neg (by decide), if_neg (by decide), if_neg (by decide), if_neg (by decide), if_neg (by decide), if_pos (by decide)]; exact h
  · rw [if_neg (by decide), if_neg (by decide), if_neg (by decide), if_neg (by decide), if_neg (by decide), if_neg (by decide), if_neg (by decide), if_neg (by decide)]; exact h
/-- a number's value as it is set -/
def st_v (k w : Nat) : Nat := if k = 0 then w - w % 2 else w
/-- the value of an int -/
def tx_i (B : Nat → Int32) (t m : Nat) : Nat := tx_dv (fun i => tx_c B t (tx_j B t m + i)) (tx_n B t m)
theorem st_even {w : Nat} (hw : w < 2 ^ 30) : nI w - (nI w - nI w / 2 * 2) = nI (w - w % 2) := by
  rw [show nI w - nI w / 2 * 2 = nI (w % 2) from pk_rem (d := 2) (by omega) (by decide) (by decide), pk_sub (Nat.mod_le _ _)]
/-- a setting is put -/
theorem R_221 (h18 : ρ 50 0 0 18 = nI v) (hv : v < 2) {k w : Nat} (hk : k < 9) (hw : w < 2 ^ 30) {Q : sx_M → sx_L → Prop} (hq : wp_Mo_tellOne_b222 Q (sx_u ρ 66 0 0 (9 * v + k) (nI (st_v k w))) θ) : (if nI k = 0 then (wp_Mo_tellOne_b221 Q ((9 * (ρ 50 0 0 18)) + nI k) (nI w - (nI w - nI w / 2 * 2)) ρ θ) else (wp_Mo_tellOne_b221 Q ((9 * (ρ 50 0 0 18)) + nI k) (nI w) ρ θ)) := by
  have e1 : (9 * (ρ 50 0 0 18)) + nI k = nI (9 * v + k) := by rw [h18, show (9 : Int32) * nI v = nI (9 * v) from pk_mul 9 v, nI_add]
  unfold wp_Mo_tellOne_b221
  unfold st_v at hq
  rw [e1, nI_clamp (n := 9 * v + k) (by omega), st_even hw]
  by_cases c : k = 0
  · rw [if_pos c] at hq
    rw [if_pos (show nI k = 0 by rw [c]; rfl)]
    refine ⟨vp_in_nI (by omega) (by decide), ?_⟩
    intro _ q; subst q; exact hq
  · rw [if_neg c] at hq
    rw [if_neg (nI_ne0 (by omega) (by omega))]
    refine ⟨vp_in_nI (by omega) (by decide), ?_⟩
    intro _ q; subst q; exact hq
/-- a number's tell -/
theorem R_tellNum (ht : t ≤ 2000) (h : pr_C B t nt v m p l ρ θ) {k : Nat} (hk : k < 9) (ho : tx_o B t m = k + 2) {s : Nat} :
    ∃ ρ2, (∀ Q : sx_M → sx_L → Prop, Q ρ2 θ → wp_Mo_tellOne ρ θ Q) ∧ (pr_B B t v (sy_y (tx_o B t) m s (sy_l s) p l) ρ ρ2 θ θ ∨
      (sy_y (tx_o B t) m s (sy_l s) p l = sy_y (tx_o B t) (m + 3) 4 (sy_l 4) p l ∧ (m + 3 ≤ 400 ∧ tx_o B t (m + 1) = 15 ∧ tx_o B t (m + 2) = 16) ∧
        ρ2 = pr_n (sx_u (pr_n (pr_b B t (m + 1) (pr_n ρ m) (st_lo k) (st_hi k)) (m + 1)) 66 0 0 (9 * v + k) (nI (st_v k (tx_i B t (m + 1))))) (m + 2))) := by
  have hb := h.b
  have hv := h.2.1.2
  obtain ⟨lo, hi, -, -⟩ := st_ok k hk
  have o17 : tx_o B t m ≠ 17 := by omega
  have nr : ¬ ((k + 2 = 0 ∧ p = 7) ∨ (k + 2 = 1 ∧ l = 16)) := by omega
  have shp : sy_h (k + 2) = 4 := by unfold sy_h; rw [if_neg (by omega), if_neg (by omega), if_neg (by omega), if_neg (by omega), if_neg (by omega)]
  have bd : ∀ (Q : sx_M → sx_L → Prop) (ρ : sx_M) (θ : sx_L), wp_Mo_bounded (nI (st_lo k)) (nI (st_hi k)) ρ θ (fun r16 σ16 τ16 => if nI k = 0 then (wp_Mo_tellOne_b221 Q ((9 * (σ16 50 0 0 18)) + nI k) (r16 - (r16 - r16 / 2 * 2)) σ16 τ16) else (wp_Mo_tellOne_b221 Q ((9 * (σ16 50 0 0 18)) + nI k) r16 σ16 τ16)) → pr_bd Q (nI (20 + (k + 2))) ρ θ := fun Q ρ θ hq => by
    have e : ∀ j : Nat, j < 100 → (nI (20 + (k + 2)) = nI j ↔ 20 + (k + 2) = j) := fun j hj => nI_eq (by omega) (by omega)
    unfold pr_bd
    rw [if_neg (show ¬ nI (20 + (k + 2)) = 20 from fun z => by have := (e 20 (by decide)).mp z; omega), if_neg (show ¬ nI (20 + (k + 2)) = 21 from fun z => by have := (e 21 (by decide)).mp z; omega), if_neg (show ¬ nI (20 + (k + 2)) = 31 from fun z => by have := (e 31 (by decide)).mp z; omega), show nI (20 + (k + 2)) - 22 = nI k by rw [show nI (20 + (k + 2)) - 22 = nI (20 + (k + 2) - 22) from pk_sub (b := 22) (by omega)]; congr 1; omega]
    exact R_least hk (R_most hk hq)
  have F : ∀ (Q : sx_M → sx_L → Prop) (ρ : sx_M) (j : Nat), ρ 50 0 0 18 = nI v → 1 ≤ j → j < 100 → ρ 50 0 0 12 = nI j → Q (sx_u ρ 66 0 0 (9 * v + k) (nI (st_v k (st_lo k)))) θ → pr_bd Q (nI (20 + (k + 2))) ρ θ := fun Q ρ j h18 h1 h2 h12 hq => by
    refine bd Q ρ θ (R_boundedF h1 h2 h12 ?_)
    exact R_221 h18 hv hk (by omega) (R_222F h1 h2 (by rw [sx_u_row _ _ _ _ _ _ (by decide)]; exact h12) hq)
  have g66 : ∀ {a b : sx_M} {x : Int32}, pr_g v a b → pr_g v a (sx_u b 66 0 0 (9 * v + k) x) := fun hg => hg.u (Or.inr (Or.inr (Or.inr (Or.inr ⟨rfl, by omega, by omega⟩))))
  have bad : ∀ {a : sx_M} {j i : Nat} {x : Int32}, pr_g v ρ a → sy_y (tx_o B t) m s (sy_l s) p l = (j, i) → 1 ≤ j → j ≤ 2 → pr_B B t v (sy_y (tx_o B t) m s (sy_l s) p l) ρ (sx_u (pr_f a j (tx_j B t i)) 66 0 0 (9 * v + k) x) θ θ := fun {a j i x} hg ey h1 h2 => by
    obtain ⟨b1, b2, b3, b4, b5, b6⟩ := pr_B.g (B := B) (t := t) (θ := θ) ey h1 h2 hg pr_l.rf
    exact ⟨g66 b1, b2, b3, b4, by rw [sx_u_row _ _ _ _ _ _ (by decide)]; exact b5, by rw [sx_u_row _ _ _ _ _ _ (by decide)]; exact b6⟩
  have y0 := sy_at (tx_o B t) (s := s) (p := p) (l := l) hb
  rw [ho, if_neg (show ¬ k + 2 = 17 by omega), shp, if_neg (by decide)] at y0
  by_cases c4 : m = 400
  · rw [if_pos (Or.inl c4)] at y0
    exact ⟨_, fun Q hQ => R_head h (by omega) ho (fun z => absurd z nr) (fun _ z => absurd c4 z) (fun _ _ => F Q _ 2 (by unfold pr_f; rw [sx_u_at, if_neg (by omega), sx_u_at, if_neg (by omega)]; exact h.2.1.1) (by decide) (by decide) pr_f_12.1 hQ), Or.inl (bad pr_g.rf y0 (by decide) (by decide))⟩
  rw [if_neg (by omega), if_neg (show ¬ k + 2 = 0 by omega), if_neg (show ¬ k + 2 = 1 by omega)] at y0
  replace y0 : sy_y (tx_o B t) m s (sy_l s) p l = sy_y (tx_o B t) (m + 1) 4 0 p l := y0
  have h1 := h.n o17 c4
  have hb1 := h1.b
  have st : ∀ (Q : sx_M → sx_L → Prop), wp_Mo_bounded (nI (st_lo k)) (nI (st_hi k)) (pr_n ρ m) θ (fun r16 σ16 τ16 => if nI k = 0 then (wp_Mo_tellOne_b221 Q ((9 * (σ16 50 0 0 18)) + nI k) (r16 - (r16 - r16 / 2 * 2)) σ16 τ16) else (wp_Mo_tellOne_b221 Q ((9 * (σ16 50 0 0 18)) + nI k) r16 σ16 τ16)) → wp_Mo_tellOne ρ θ Q := fun Q hq => R_head h (by omega) ho (fun z => absurd z nr) (fun _ _ => bd Q _ _ hq) (fun _ z => absurd z c4)
  have e18 : ∀ {a : sx_M}, pr_g v ρ a → a 50 0 0 18 = nI v := fun hg => by rw [hg.2.1 18 (by decide)]; exact h.2.1.1
  by_cases c1 : tx_o B t (m + 1) = 15
  · have y1 := sy_in1 (tx_o B t) (m := m + 1) (s := 4) (me := 0) (p := p) (l := l) hb1 (by decide) c1
    have h17 : ∀ i, i < m + 1 → tx_o B t i ≠ 17 := fun i hi => h1.1.2.2.2.1 i (by have := h1.2.2.1.2; omega)
    have vl := (tx_15 ht h17 c1).2.2.2.2
    have hK := h1.k (st_lo k) (st_hi k) (i := m + 1)
    have gK : pr_g v ρ (pr_b B t (m + 1) (pr_n ρ m) (st_lo k) (st_hi k)) := pr_n_g.tr (pr_b_g _ _)
    by_cases c5 : m + 1 = 400
    · rw [if_pos c5] at y1
      refine ⟨_, fun Q hQ => st Q (R_bounded ht h1 lo hi rfl rfl (fun z => absurd c1 z) (fun _ z => absurd c5 z) (fun _ _ => ?_)), Or.inl (bad (x := nI (st_v k (tx_i B t (m + 1)))) gK (y0.trans y1) (by decide) (by decide))⟩
      exact R_221 (e18 (gK.tr (pr_f_g _ _))) hv hk (by omega) (R_222F (k := 2) (by decide) (by decide) (by rw [sx_u_row _ _ _ _ _ _ (by decide)]; exact pr_f_12.1) hQ)
    rw [if_neg c5] at y1
    have h2 := hK.n (by omega) c5
    have hb2 := h2.b
    obtain ⟨V, eV⟩ : ∃ z, z = sx_u (pr_n (pr_b B t (m + 1) (pr_n ρ m) (st_lo k) (st_hi k)) (m + 1)) 66 0 0 (9 * v + k) (nI (st_v k (tx_i B t (m + 1)))) := ⟨_, rfl⟩
    have gV0 : pr_g v (pr_n (pr_b B t (m + 1) (pr_n ρ m) (st_lo k) (st_hi k)) (m + 1)) V := by rw [eV]; exact g66 pr_g.rf
    have gV : pr_g v ρ V := (gK.tr pr_n_g).tr gV0
    have hV : pr_C B t nt v (m + 1 + 1) p l V θ := by
      refine h2.mv gV0 pr_l.rf ?_ h2.2.2.1.2 ?_ ?_ h2.2.2.2.2.1.2 ?_ h2.2.2.2.2.2.2
      · rw [eV, sx_u_row _ _ _ _ _ _ (by decide)]; exact h2.2.2.1.1
      · rw [eV, sx_u_row _ _ _ _ _ _ (by decide)]; exact h2.2.2.2.1
      · rw [eV, sx_u_row _ _ _ _ _ _ (by decide)]; exact h2.2.2.2.2.1.1
      · rw [eV, sx_u_row _ _ _ _ _ _ (by decide)]; exact h2.2.2.2.2.2.1
    have st2 : ∀ (Q : sx_M → sx_L → Prop), wp_Mo_tellOne_b222 Q V θ → wp_Mo_tellOne ρ θ Q := fun Q hq => st Q (R_bounded ht h1 lo hi rfl rfl (fun z => absurd c1 z) (fun _ _ => by
      refine R_221 (e18 (gK.tr pr_n_g)) hv hk (by omega) ?_
      rw [eV] at hq; exact hq) (fun _ z => absurd z c5))
    by_cases c2 : tx_o B t (m + 2) = 16
    · have y2 := sy_in1 (tx_o B t) (m := m + 1 + 1) (s := 4) (me := 0 + 1) (p := p) (l := l) hb2 (by decide) c2
      by_cases c6 : m + 2 = 400
      · rw [if_pos c6] at y2
        exact ⟨_, fun Q hQ => st2 Q (R_must hV (fun z => absurd c2 z) (fun _ z => absurd c6 z) (fun _ _ => hQ)), Or.inl (pr_B.g (y0.trans (y1.trans y2)) (by decide) (by decide) gV pr_l.rf)⟩
      · rw [if_neg c6] at y2
        exact ⟨_, fun Q hQ => st2 Q (R_must hV (fun z => absurd c2 z) (fun _ _ => hQ) (fun _ z => absurd z c6)), Or.inr ⟨y0.trans (y1.trans y2), ⟨by omega, c1, c2⟩, by rw [eV]⟩⟩
    · have y2 := sy_in0 (tx_o B t) (m := m + 1 + 1) (s := 4) (me := 0 + 1) (p := p) (l := l) hb2 (by decide) c2
      exact ⟨_, fun Q hQ => st2 Q (R_must hV (fun _ => hQ) (fun z => absurd z c2) (fun z => absurd z c2)), Or.inl (pr_B.g (y0.trans (y1.trans y2)) (by decide) (by decide) gV pr_l.rf)⟩
  · have y1 := sy_in0 (tx_o B t) (m := m + 1) (s := 4) (me := 0) (p := p) (l := l) hb1 (by decide) c1
    refine ⟨_, fun Q hQ => st Q (R_bounded ht h1 lo hi rfl rfl (fun _ => ?_) (fun z => absurd z c1) (fun z => absurd z c1)), Or.inl (bad (x := nI (st_v k (st_lo k))) (a := pr_n ρ m) pr_n_g (y0.trans y1) (by decide) (by decide))⟩
    exact R_221 (e18 (pr_n_g.tr (pr_f_g _ _))) hv hk (by omega) (R_222F (k := 1) (by decide) (by decide) (by rw [sx_u_row _ _ _ _ _ _ (by decide)]; exact pr_f_12.1) hQ)
/-- the goal's tell -/
theorem R_tellGoal (h : pr_C B t nt v m p l ρ θ) (ho : tx_o B t m = 11) {s : Nat} :
    ∃ ρ2, (∀ Q : sx_M → sx_L → Prop, Q ρ2 θ → wp_Mo_tellOne ρ θ Q) ∧ (pr_B B t v (sy_y (tx_o B t) m s (sy_l s) p l) ρ ρ2 θ θ ∨
      (sy_y (tx_o B t) m s (sy_l s) p l = sy_y (tx_o B t) (m + 3) 3 (sy_l 3) p l ∧ (m + 3 ≤ 400 ∧ (tx_o B t (m + 1) = 12 ∨ tx_o B t (m + 1) = 13) ∧ tx_o B t (m + 2) = 16) ∧
        ρ2 = pr_n (pr_n (sx_u (pr_n ρ m) 65 0 0 v (if tx_o B t (m + 1) = 13 then 1 else 0)) (m + 1)) (m + 2))) := by
  have hb := h.b
  have hv := h.2.1.2
  have o17 : tx_o B t m ≠ 17 := by omega
  have nr : ¬ ((11 = 0 ∧ p = 7) ∨ (11 = 1 ∧ l = 16)) := by omega
  have iv : vp_in (nI v) 2 := vp_in_nI hv (by decide)
  have nar0 : vp_nar .boolean 0 = 0 := by decide
  have nar1 : vp_nar .boolean 1 = 1 := by decide
  have g65 : ∀ {a b : sx_M} {x : Int32}, pr_g v a b → pr_g v a (sx_u b 65 0 0 v x) := fun hg => hg.u (Or.inr (Or.inl ⟨Or.inr (Or.inr rfl), rfl⟩))
  have bd : ∀ (Q : sx_M → sx_L → Prop) (ρ : sx_M), wp_Mo_is (32 : Int32) ρ θ (fun r18 σ18 τ18 => if r18 = 0 then (wp_Mo_is (33 : Int32) σ18 τ18 (fun r20 σ20 τ20 => if r20 = 0 then (wp_Mo_fail (1 : Int32) σ20 τ20 (fun σ22 τ22 => wp_Mo_tellOne_b144 Q σ22 τ22)) else (wp_Mo_tellOne_b144 Q σ20 τ20))) else (wp_Mo_tellOne_b144 Q σ18 τ18)) → pr_bd Q (nI (20 + 11)) ρ θ := fun Q ρ hq => by
    unfold pr_bd
    rw [if_neg (show ¬ nI (20 + 11) = 20 by decide), if_neg (show ¬ nI (20 + 11) = 21 by decide), if_pos (show nI (20 + 11) = 31 by decide)]; exact hq
  have F144 : ∀ (Q : sx_M → sx_L → Prop) (ρ : sx_M) (j : Nat), ρ 50 0 0 18 = nI v → 1 ≤ j → j < 100 → ρ 50 0 0 12 = nI j → Q (sx_u ρ 65 0 0 v 0) θ → wp_Mo_tellOne_b144 Q ρ θ := fun Q ρ j h18 h1 h2 h12 hq => by
    unfold wp_Mo_tellOne_b144
    have n12 : ¬ ρ 50 0 0 12 = 0 := by rw [h12]; exact nI_ne0 (by omega) (by omega)
    refine R_isF n12 ?_
    rw [h18, nI_clamp (n := v) (by omega), nar0]
    refine ⟨iv, ?_⟩
    intro _ q; subst q
    rw [show sx_u ρ 65 0 0 v 0 50 0 0 12 = ρ 50 0 0 12 by rw [sx_u_row _ _ _ _ _ _ (by decide)], if_neg n12]
    exact R_222F h1 h2 (by rw [sx_u_row _ _ _ _ _ _ (by decide)]; exact h12) hq
  have bad : ∀ {a : sx_M} {j i : Nat} {x : Int32}, pr_g v ρ a → sy_y (tx_o B t) m s (sy_l s) p l = (j, i) → 1 ≤ j → j ≤ 2 → pr_B B t v (sy_y (tx_o B t) m s (sy_l s) p l) ρ (sx_u (pr_f a j (tx_j B t i)) 65 0 0 v x) θ θ := fun {a j i x} hg ey h1 h2 => by
    obtain ⟨b1, b2, b3, b4, b5, b6⟩ := pr_B.g (B := B) (t := t) (θ := θ) ey h1 h2 hg pr_l.rf
    exact ⟨g65 b1, b2, b3, b4, by rw [sx_u_row _ _ _ _ _ _ (by decide)]; exact b5, by rw [sx_u_row _ _ _ _ _ _ (by decide)]; exact b6⟩
  have f18 : ∀ (k x : Nat) {a : sx_M}, a 50 0 0 18 = nI v → pr_f a k x 50 0 0 18 = nI v := fun k x a ha => by unfold pr_f; rw [sx_u_at, if_neg (by omega), sx_u_at, if_neg (by omega)]; exact ha
  have y0 := sy_at (tx_o B t) (s := s) (p := p) (l := l) hb
  rw [ho, if_neg (by decide), if_neg (show ¬ sy_h 11 = 0 by decide), show sy_h 11 = 3 from rfl] at y0
  by_cases c4 : m = 400
  · rw [if_pos (Or.inl c4)] at y0
    refine ⟨_, fun Q hQ => R_head h (by decide) ho (fun z => absurd z nr) (fun _ z => absurd c4 z) (fun _ _ => bd Q _ ?_), Or.inl (bad (x := 0) pr_g.rf y0 (by decide) (by decide))⟩
    have n12 : ¬ pr_f ρ 2 (tx_j B t m) 50 0 0 12 = 0 := by rw [pr_f_12.1]; decide
    refine R_isF n12 ?_
    rw [if_pos rfl]
    refine R_isF n12 ?_
    rw [if_pos rfl]
    exact R_failF (k := 2) (by decide) (by decide) pr_f_12.1 (F144 Q _ 2 (f18 _ _ h.2.1.1) (by decide) (by decide) pr_f_12.1 hQ)
  rw [if_neg (by omega), if_neg (show ¬ (11 : Nat) = 0 by decide), if_neg (show ¬ (11 : Nat) = 1 by decide)] at y0
  replace y0 : sy_y (tx_o B t) m s (sy_l s) p l = sy_y (tx_o B t) (m + 1) 3 0 p l := y0
  have h1 := h.n o17 c4
  have hb1 := h1.b
  obtain ⟨-, -, -, -, k32, k33⟩ := tx_rk_i (tx_o B t (m + 1)) (tx_s_le B t (tx_j B t (m + 1)))
  by_cases c1 : tx_o B t (m + 1) = 12 ∨ tx_o B t (m + 1) = 13
  · have y1 := sy_in1 (tx_o B t) (m := m + 1) (s := 3) (me := 0) (p := p) (l := l) hb1 (by decide) c1
    obtain ⟨V, eV⟩ : ∃ z, z = sx_u (pr_n ρ m) 65 0 0 v (if tx_o B t (m + 1) = 13 then 1 else 0) := ⟨_, rfl⟩
    have gV0 : pr_g v (pr_n ρ m) V := by rw [eV]; exact g65 pr_g.rf
    have gV : pr_g v ρ V := pr_n_g.tr gV0
    have hV : pr_C B t nt v (m + 1) p l V θ := by
      refine h1.mv gV0 pr_l.rf ?_ h1.2.2.1.2 ?_ ?_ h1.2.2.2.2.1.2 ?_ h1.2.2.2.2.2.2
      · rw [eV, sx_u_row _ _ _ _ _ _ (by decide)]; exact h1.2.2.1.1
      · rw [eV, sx_u_row _ _ _ _ _ _ (by decide)]; exact h1.2.2.2.1
      · rw [eV, sx_u_row _ _ _ _ _ _ (by decide)]; exact h1.2.2.2.2.1.1
      · rw [eV, sx_u_row _ _ _ _ _ _ (by decide)]; exact h1.2.2.2.2.2.1
    have b144 : ∀ (Q : sx_M → sx_L → Prop), wp_Mo_goesOn V θ (fun σ8 τ8 => wp_Mo_tellOne_b222 Q σ8 τ8) → wp_Mo_tellOne_b144 Q (pr_n ρ m) θ := fun Q hq => by
      unfold wp_Mo_tellOne_b144
      refine R_is h1 (k := 33) rfl (by decide) (fun z => ?_) (fun z => ?_)
      · rw [h1.2.1.1, nI_clamp (n := v) (by omega), nar1]
        refine ⟨iv, ?_⟩
        rw [if_pos (k33.mp z)] at eV
        intro _ q; rw [← eV] at q; subst q
        rw [hV.2.2.2.1, if_pos rfl]; exact hq
      · rw [h1.2.1.1, nI_clamp (n := v) (by omega), nar0]
        refine ⟨iv, ?_⟩
        rw [if_neg (fun q => z (k33.mpr q))] at eV
        intro _ q; rw [← eV] at q; subst q
        rw [hV.2.2.2.1, if_pos rfl]; exact hq
    have st2 : ∀ (Q : sx_M → sx_L → Prop), wp_Mo_goesOn V θ (fun σ8 τ8 => wp_Mo_tellOne_b222 Q σ8 τ8) → wp_Mo_tellOne ρ θ Q := fun Q hq => R_head h (by decide) ho (fun z => absurd z nr) (fun _ _ => bd Q _ (by
      refine R_is h1 (k := 32) rfl (by decide) (fun z => ?_) (fun z => ?_)
      · rw [if_neg (by decide)]; exact b144 Q hq
      · rw [if_pos rfl]
        refine R_is h1 (k := 33) rfl (by decide) (fun z2 => ?_) (fun z2 => ?_)
        · rw [if_neg (by decide)]; exact b144 Q hq
        · rcases c1 with w | w
          · exact absurd (k32.mpr w) z
          · exact absurd (k33.mpr w) z2)) (fun _ z => absurd z c4)
    by_cases c5 : m + 1 = 400
    · rw [if_pos c5] at y1
      exact ⟨_, fun Q hQ => st2 Q (R_goes hV (fun z => absurd c5 z) (fun _ => R_222F (k := 2) (by decide) (by decide) pr_f_12.1 hQ)), Or.inl (pr_B.g (y0.trans y1) (by decide) (by decide) gV pr_l.rf)⟩
    rw [if_neg c5] at y1
    have h2 := hV.n (by omega) c5
    have hb2 := h2.b
    by_cases c2 : tx_o B t (m + 2) = 16
    · have y2 := sy_in1 (tx_o B t) (m := m + 1 + 1) (s := 3) (me := 0 + 1) (p := p) (l := l) hb2 (by decide) c2
      by_cases c6 : m + 2 = 400
      · rw [if_pos c6] at y2
        exact ⟨_, fun Q hQ => st2 Q (R_goes hV (fun _ => R_must h2 (fun z => absurd c2 z) (fun _ z => absurd c6 z) (fun _ _ => hQ)) (fun z => absurd z c5)), Or.inl (pr_B.g (y0.trans (y1.trans y2)) (by decide) (by decide) (gV.tr pr_n_g) pr_l.rf)⟩
      · rw [if_neg c6] at y2
        exact ⟨_, fun Q hQ => st2 Q (R_goes hV (fun _ => R_must h2 (fun z => absurd c2 z) (fun _ _ => hQ) (fun _ z => absurd z c6)) (fun z => absurd z c5)), Or.inr ⟨y0.trans (y1.trans y2), ⟨by omega, c1, c2⟩, by rw [eV]⟩⟩
    · have y2 := sy_in0 (tx_o B t) (m := m + 1 + 1) (s := 3) (me := 0 + 1) (p := p) (l := l) hb2 (by decide) c2
      exact ⟨_, fun Q hQ => st2 Q (R_goes hV (fun _ => R_must h2 (fun _ => hQ) (fun z => absurd z c2) (fun z => absurd z c2)) (fun z => absurd z c5)), Or.inl (pr_B.g (y0.trans (y1.trans y2)) (by decide) (by decide) (gV.tr pr_n_g) pr_l.rf)⟩
  · have y1 := sy_in0 (tx_o B t) (m := m + 1) (s := 3) (me := 0) (p := p) (l := l) hb1 (by decide) c1
    refine ⟨_, fun Q hQ => R_head h (by decide) ho (fun z => absurd z nr) (fun _ _ => bd Q _ ?_) (fun _ z => absurd z c4), Or.inl (bad (x := 0) (a := pr_n ρ m) pr_n_g (y0.trans y1) (by decide) (by decide))⟩
    refine R_is h1 (k := 32) rfl (by decide) (fun z => absurd (Or.inl (k32.mp z)) c1) (fun _ => ?_)
    rw [if_pos rfl]
    refine R_is h1 (k := 33) rfl (by decide) (fun z => absurd (Or.inr (k33.mp z)) c1) (fun _ => ?_)
    rw [if_pos rfl]
    exact R_fail h1 (k := 1) rfl (F144 Q _ 1 (f18 _ _ h1.2.1.1) (by decide) (by decide) pr_f_12.1 hQ)
end TELLB
