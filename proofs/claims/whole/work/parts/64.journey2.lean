section JOURB
variable {P L v m n : Nat} {σ σ2 ρ ρ2 : sx_M} {θ : sx_L}
theorem jo_F.pP (h : jo_F σ σ2) (hP : pn_P P L v σ ρ) : pn_P P L v σ2 ρ := hP.mvA (fun k n p _ hk => h k n p (by omega)) rfl (fun _ _ _ => rfl)
/-- the class: the way from here on -/
theorem C_goLoop {d : Nat} (hd : d < P) : ∀ (k i x c : Nat) (dn : Int32) (a : Nat) (σ : sx_M), i + k = 20 → x < P → c < P → a ≤ 1 → pn_P P L v σ ρ → (∀ p, p < P → pn_o P (σ 27 0 p 3)) → (∀ p j, p < P → j < P → pn_o P (σ 29 0 p j)) → σ 34 0 0 2 = nI i → σ 34 0 0 4 = nI a → σ 34 0 0 6 = nI c →
    ∃ σ2, jo_R i a (jo_n σ d k x c dn a) σ σ2 ∧ ∀ Q : sx_M → Prop, Q σ2 → ∃ f, wp_Jo_go_b23 Q f (nI d) (nI x) dn (nI i) σ := by
  intro k
  induction k with
  | zero =>
    intro i x c dn a σ hik hx hc ha hP h3 h29 f2 f4 f6
    have h7 := hP.1.1
    have ix : vp_in (nI x) 7 := vp_in_nI (by omega) (by decide)
    have id_ : vp_in (nI d) 7 := vp_in_nI (by omega) (by decide)
    have cx : (nI x).toNatClampNeg = x := nI_clamp (by omega)
    have cd : (nI d).toNatClampNeg = d := nI_clamp (by omega)
    have n20 : ¬ 20 < nI i := nI_nlt (a := 20) (by omega) (by decide)
    have go : ∀ (Q : sx_M → Prop) f, wp_Jo_go_b54 (wp_Jo_go_b23 Q f) Q (nI d) (nI x) dn (nI i) (jo_d σ d x) σ → wp_Jo_go_b23 Q (f + 1) (nI d) (nI x) dn (nI i) σ := fun Q f h => by
      rw [wp_Jo_go_b23, if_neg n20, cx, cd]
      refine ⟨ix, id_, ?_⟩
      unfold jo_d at h
      by_cases c : σ 29 0 x d = -2
      · rw [if_pos c] at h ⊢; exact h
      · rw [if_neg c] at h ⊢; exact h
    by_cases he : jo_e σ d x dn = 0
    · obtain ⟨hy, ev⟩ := jo_y_v h7 h3 h29 hd hx he
      obtain ⟨σs1, e1⟩ : ∃ z, z = sx_u σ 34 0 0 5 0 := ⟨_, rfl⟩
      have F1 : jo_F σ σs1 := by rw [e1]; exact jo_F.rf.u (Or.inl rfl)
      have g1 : ∀ j, ¬ j = 5 → σs1 34 0 0 j = σ 34 0 0 j := fun j hj => by rw [e1, sx_u_at, if_neg (by omega)]
      have g35 : σs1 35 0 0 = σ 35 0 0 := by rw [e1, sx_u_row _ _ _ _ _ _ (by decide)]
      have g36 : σs1 36 0 0 = σ 36 0 0 := by rw [e1, sx_u_row _ _ _ _ _ _ (by decide)]
      have ny : jo_y σs1 d x = jo_y σ d x := jo_y_c F1.q d x
      have nn : pn_nb σs1 0 x (jo_y σs1 d x) = pn_nb σ 0 x (jo_y σ d x) := by rw [ny, jo_nb_c F1.q]
      have nd : jo_d σs1 d x = jo_d σ d x := jo_d_c F1.q d x
      have mid : ∀ (Q : sx_M → Prop) (K : Int32 → Int32 → Int32 → Int32 → sx_M → Prop), wp_Jo_go_b111 K Q (nI d) (nI x) (nI i) (jo_d σ d x) (nI (jo_y σ d x)) σs1 → wp_Jo_go_b54 K Q (nI d) (nI x) dn (nI i) (jo_d σ d x) σ := fun Q K h => by
        unfold wp_Jo_go_b54
        refine C_endAt h7 hx ?_
        rw [he]
        intro _ q
        rw [← e1] at q; replace q := q.symm; subst q
        rw [show σs1 34 0 0 5 = 0 by rw [e1, sx_u_at]; simp, if_pos rfl, cx, cd, F1 27 0 x (by decide), F1 29 0 x (by decide)]
        rw [← ev] at h
        unfold jo_v at h
        unfold jo_d at h ⊢
        by_cases c : σ 29 0 x d = -2
        · rw [if_pos c] at h ⊢; rw [if_pos rfl]; rw [if_pos c] at h; exact ⟨ix, h⟩
        · rw [if_neg c] at h ⊢; rw [if_neg (by decide)]; rw [if_neg c] at h; exact ⟨ix, id_, h⟩
      have fin : ∀ (e : Int32), ¬ e = 0 → jo_R i a (e, [], [], c) σ (sx_u σs1 34 0 0 5 e) := fun e _ => by
        refine jo_R.e (F1.u (Or.inl rfl)) (by rw [sx_u_at]; simp) ?_ ?_ ?_ (fun j _ => ?_) (fun j _ => ?_)
        · rw [sx_u_at, if_neg (by omega), g1 2 (by decide)]; exact f2
        · rw [sx_u_at, if_neg (by omega), g1 4 (by decide)]; exact f4
        · rw [sx_u_at, if_neg (by omega), g1 6 (by decide)]; exact f6
        · rw [sx_u_row _ _ _ _ _ _ (by decide), g35]
        · rw [sx_u_row _ _ _ _ _ _ (by decide), g36]
      have hop := @C_hop P L v σs1 ρ (F1.pP hP) d x i a hx (by rw [ny]; exact hy) (by omega) ha (by rw [g1 2 (by decide)]; exact f2) (by rw [g1 4 (by decide)]; exact f4)
      rw [nn, nd, ny] at hop
      by_cases c3 : pn_nb σ 0 x (jo_y σ d x) = 0
      · refine ⟨sx_u σs1 34 0 0 5 3, ?_, fun Q hQ => ⟨1, go Q 0 (mid Q _ ?_)⟩⟩
        · unfold jo_n; rw [if_pos he, if_pos c3]; exact fin 3 (by decide)
        · unfold wp_Jo_go_b111 wp_Jo_go_b143
          refine hop (fun _ => ?_) (fun z => absurd c3 z) (fun z => absurd c3 z) (fun z => absurd c3 z)
          intro _ q; subst q
          rw [show sx_u σs1 34 0 0 5 3 34 0 0 5 = 3 by rw [sx_u_at]; simp, if_neg (by decide)]; exact hQ
      · refine ⟨sx_u σs1 34 0 0 5 6, ?_, fun Q hQ => ⟨1, go Q 0 (mid Q _ ?_)⟩⟩
        · unfold jo_n; rw [if_pos he, if_neg c3]; exact fin 6 (by decide)
        · unfold wp_Jo_go_b111 wp_Jo_go_b143
          refine hop (fun z => absurd z c3) (fun _ _ => ?_) (fun _ z => by omega) (fun _ z => by omega)
          intro _ q; subst q
          rw [show sx_u σs1 34 0 0 5 6 34 0 0 5 = 6 by rw [sx_u_at]; simp, if_neg (by decide)]; exact hQ
    · refine ⟨sx_u σ 34 0 0 5 (jo_e σ d x dn), ?_, fun Q hQ => ⟨1, go Q 0 ?_⟩⟩
      · unfold jo_n; rw [if_neg he]
        refine jo_R.e (jo_F.rf.u (Or.inl rfl)) (by rw [sx_u_at]; simp) ?_ ?_ ?_ (fun j _ => ?_) (fun j _ => ?_)
        · rw [sx_u_at, if_neg (by omega)]; exact f2
        · rw [sx_u_at, if_neg (by omega)]; exact f4
        · rw [sx_u_at, if_neg (by omega)]; exact f6
        · rw [sx_u_row _ _ _ _ _ _ (by decide)]
        · rw [sx_u_row _ _ _ _ _ _ (by decide)]
      · unfold wp_Jo_go_b54
        refine C_endAt h7 hx ?_
        intro _ q; subst q
        rw [show sx_u σ 34 0 0 5 (jo_e σ d x dn) 34 0 0 5 = jo_e σ d x dn by rw [sx_u_at]; simp, if_neg he]; exact hQ
  | succ k ih =>
    intro i x c dn a σ hik hx hc ha hP h3 h29 f2 f4 f6
    have h7 := hP.1.1
    have ix : vp_in (nI x) 7 := vp_in_nI (by omega) (by decide)
    have id_ : vp_in (nI d) 7 := vp_in_nI (by omega) (by decide)
    have cx : (nI x).toNatClampNeg = x := nI_clamp (by omega)
    have cd : (nI d).toNatClampNeg = d := nI_clamp (by omega)
    have n20 : ¬ 20 < nI i := nI_nlt (a := 20) (by omega) (by decide)
    have go : ∀ (Q : sx_M → Prop) f, wp_Jo_go_b54 (wp_Jo_go_b23 Q f) Q (nI d) (nI x) dn (nI i) (jo_d σ d x) σ → wp_Jo_go_b23 Q (f + 1) (nI d) (nI x) dn (nI i) σ := fun Q f h => by
      rw [wp_Jo_go_b23, if_neg n20, cx, cd]
      refine ⟨ix, id_, ?_⟩
      unfold jo_d at h
      by_cases c : σ 29 0 x d = -2
      · rw [if_pos c] at h ⊢; exact h
      · rw [if_neg c] at h ⊢; exact h
    by_cases he : jo_e σ d x dn = 0
    · obtain ⟨hy, ev⟩ := jo_y_v h7 h3 h29 hd hx he
      obtain ⟨σs1, e1⟩ : ∃ z, z = sx_u σ 34 0 0 5 0 := ⟨_, rfl⟩
      have F1 : jo_F σ σs1 := by rw [e1]; exact jo_F.rf.u (Or.inl rfl)
      have g1 : ∀ j, ¬ j = 5 → σs1 34 0 0 j = σ 34 0 0 j := fun j hj => by rw [e1, sx_u_at, if_neg (by omega)]
      have g35 : σs1 35 0 0 = σ 35 0 0 := by rw [e1, sx_u_row _ _ _ _ _ _ (by decide)]
      have g36 : σs1 36 0 0 = σ 36 0 0 := by rw [e1, sx_u_row _ _ _ _ _ _ (by decide)]
      have ny : jo_y σs1 d x = jo_y σ d x := jo_y_c F1.q d x
      have nn : pn_nb σs1 0 x (jo_y σs1 d x) = pn_nb σ 0 x (jo_y σ d x) := by rw [ny, jo_nb_c F1.q]
      have nd : jo_d σs1 d x = jo_d σ d x := jo_d_c F1.q d x
      have na : jo_a σs1 d x = jo_a σ d x := jo_a_c F1.q d x
      have mid : ∀ (Q : sx_M → Prop) (K : Int32 → Int32 → Int32 → Int32 → sx_M → Prop), wp_Jo_go_b111 K Q (nI d) (nI x) (nI i) (jo_d σ d x) (nI (jo_y σ d x)) σs1 → wp_Jo_go_b54 K Q (nI d) (nI x) dn (nI i) (jo_d σ d x) σ := fun Q K h => by
        unfold wp_Jo_go_b54
        refine C_endAt h7 hx ?_
        rw [he]
        intro _ q
        rw [← e1] at q; replace q := q.symm; subst q
        rw [show σs1 34 0 0 5 = 0 by rw [e1, sx_u_at]; simp, if_pos rfl, cx, cd, F1 27 0 x (by decide), F1 29 0 x (by decide)]
        rw [← ev] at h
        unfold jo_v at h
        unfold jo_d at h ⊢
        by_cases c : σ 29 0 x d = -2
        · rw [if_pos c] at h ⊢; rw [if_pos rfl]; rw [if_pos c] at h; exact ⟨ix, h⟩
        · rw [if_neg c] at h ⊢; rw [if_neg (by decide)]; rw [if_neg c] at h; exact ⟨ix, id_, h⟩
      have hop := @C_hop P L v σs1 ρ (F1.pP hP) d x i a hx (by rw [ny]; exact hy) (by omega) ha (by rw [g1 2 (by decide)]; exact f2) (by rw [g1 4 (by decide)]; exact f4)
      rw [nn, nd, ny, na] at hop
      generalize eY : jo_y σ d x = y at *
      have neq : ∀ {q : Nat}, q < P → ¬ q = d → ¬ nI q = nI d := fun hq h z => h ((nI_eq (by omega) (by omega)).mp z)
      by_cases c3 : pn_nb σ 0 x y = 0
      · refine ⟨sx_u σs1 34 0 0 5 3, ?_, fun Q hQ => ⟨1, go Q 0 (mid Q _ ?_)⟩⟩
        · unfold jo_n; rw [if_pos he, eY, if_pos c3]
          refine jo_R.e (F1.u (Or.inl rfl)) (by rw [sx_u_at]; simp) ?_ ?_ ?_ (fun j _ => ?_) (fun j _ => ?_)
          · rw [sx_u_at, if_neg (by omega), g1 2 (by decide)]; exact f2
          · rw [sx_u_at, if_neg (by omega), g1 4 (by decide)]; exact f4
          · rw [sx_u_at, if_neg (by omega), g1 6 (by decide)]; exact f6
          · rw [sx_u_row _ _ _ _ _ _ (by decide), g35]
          · rw [sx_u_row _ _ _ _ _ _ (by decide), g36]
        · unfold wp_Jo_go_b111 wp_Jo_go_b143
          refine hop (fun _ => ?_) (fun z => absurd c3 z) (fun z => absurd c3 z) (fun z => absurd c3 z)
          intro _ q; subst q
          rw [show sx_u σs1 34 0 0 5 3 34 0 0 5 = 3 by rw [sx_u_at]; simp, if_neg (by decide)]; exact hQ
      · -- the hop is taken
        obtain ⟨σs2, e2⟩ : ∃ z, z = jo_t σs1 i y := ⟨_, rfl⟩
        have F2 : jo_F σ σs2 := by rw [e2]; exact (F1.u (Or.inr (Or.inl rfl))).u (Or.inl rfl)
        have s2_2 : σs2 34 0 0 2 = nI (i + 1) := by rw [e2]; unfold jo_t; rw [sx_u_at]; simp
        have s2_o : ∀ j, ¬ j = 2 → σs2 34 0 0 j = σs1 34 0 0 j := fun j hj => by rw [e2]; unfold jo_t; rw [sx_u_at, if_neg (by omega), sx_u_row _ _ _ _ _ _ (by decide)]
        have s2_y : σs2 35 0 0 i = nI y := by rw [e2]; unfold jo_t; rw [sx_u_row _ _ _ _ _ _ (by decide), sx_u_at]; simp
        have s2_35 : ∀ j, j < i → σs2 35 0 0 j = σ 35 0 0 j := fun j hj => by rw [e2]; unfold jo_t; rw [sx_u_row _ _ _ _ _ _ (by decide), sx_u_at, if_neg (by omega), g35]
        have s2_36 : σs2 36 0 0 = σ 36 0 0 := by rw [e2]; unfold jo_t; rw [sx_u_row _ _ _ _ _ _ (by decide), sx_u_row _ _ _ _ _ _ (by decide), g36]
        rw [← e2] at hop
        by_cases c0 : jo_a σ d x = 0
        · -- not against
          obtain ⟨σs3, e3⟩ : ∃ z, z = sx_u σs2 34 0 0 5 0 := ⟨_, rfl⟩
          have F3 : jo_F σ σs3 := by rw [e3]; exact F2.u (Or.inl rfl)
          have s3_5 : σs3 34 0 0 5 = 0 := by rw [e3, sx_u_at]; simp
          have s3_o : ∀ j, ¬ j = 5 → σs3 34 0 0 j = σs2 34 0 0 j := fun j hj => by rw [e3, sx_u_at, if_neg (by omega)]
          have s3_35 : σs3 35 0 0 = σs2 35 0 0 := by rw [e3, sx_u_row _ _ _ _ _ _ (by decide)]
          have s3_36 : σs3 36 0 0 = σ 36 0 0 := by rw [e3, sx_u_row _ _ _ _ _ _ (by decide), s2_36]
          by_cases cd0 : y = d
          · refine ⟨σs3, ?_, fun Q hQ => ⟨1, go Q 0 (mid Q _ ?_)⟩⟩
            · unfold jo_n; rw [if_pos he, eY, if_neg c3, if_pos c0, if_pos cd0]
              refine jo_R.c1 (r := (0, [], [], c)) (σ1 := σs2) F2 s2_y s2_35 (fun j _ => by rw [s2_36]) ?_
              refine jo_R.e (by rw [e3]; exact jo_F.rf.u (Or.inl rfl)) s3_5 ?_ ?_ ?_ (fun j _ => by rw [s3_35]) (fun j _ => by rw [s3_36, s2_36])
              · rw [s3_o 2 (by decide)]; exact s2_2
              · rw [s3_o 4 (by decide), s2_o 4 (by decide), g1 4 (by decide)]; exact f4
              · rw [s3_o 6 (by decide), s2_o 6 (by decide), g1 6 (by decide)]; exact f6
            · unfold wp_Jo_go_b111 wp_Jo_go_b143
              refine hop (fun z => absurd z c3) (fun _ z => by omega) (fun _ _ _ => ?_) (fun _ _ z => absurd c0 z)
              intro _ q; rw [← e3] at q; subst q
              rw [s3_5, if_pos rfl, if_pos (by rw [cd0])]; exact hQ
          · obtain ⟨σs4, e4⟩ : ∃ z, z = sx_u σs3 34 0 0 6 (nI x) := ⟨_, rfl⟩
            have F4 : jo_F σ σs4 := by rw [e4]; exact F3.u (Or.inl rfl)
            have s4_6 : σs4 34 0 0 6 = nI x := by rw [e4, sx_u_at]; simp
            have s4_o : ∀ j, ¬ j = 6 → σs4 34 0 0 j = σs3 34 0 0 j := fun j hj => by rw [e4, sx_u_at, if_neg (by omega)]
            have s4_35 : σs4 35 0 0 = σs2 35 0 0 := by rw [e4, sx_u_row _ _ _ _ _ _ (by decide), s3_35]
            have s4_36 : σs4 36 0 0 = σ 36 0 0 := by rw [e4, sx_u_row _ _ _ _ _ _ (by decide), s3_36]
            obtain ⟨σs5, R5, w5⟩ := ih (i + 1) y x (jo_d σ d x) a σs4 (by omega) hy hx ha (F4.pP hP) (fun p hp => by rw [F4 27 0 p (by decide)]; exact h3 p hp) (fun p j hp hj => by rw [F4 29 0 p (by decide)]; exact h29 p j hp hj) (by rw [s4_o 2 (by decide), s3_o 2 (by decide)]; exact s2_2) (by rw [s4_o 4 (by decide), s3_o 4 (by decide), s2_o 4 (by decide), g1 4 (by decide)]; exact f4) s4_6
            rw [jo_n_c F4.q] at R5
            refine ⟨σs5, ?_, fun Q hQ => ?_⟩
            · unfold jo_n; rw [if_pos he, eY, if_neg c3, if_pos c0, if_neg cd0]
              exact jo_R.c1 (σ1 := σs4) F4 (by rw [s4_35]; exact s2_y) (fun j hj => by rw [s4_35]; exact s2_35 j hj) (fun j _ => by rw [s4_36]) R5
            · obtain ⟨f, hf⟩ := w5 Q hQ
              refine ⟨f + 1, go Q f (mid Q _ ?_)⟩
              unfold wp_Jo_go_b111 wp_Jo_go_b143
              refine hop (fun z => absurd z c3) (fun _ z => by omega) (fun _ _ _ => ?_) (fun _ _ z => absurd c0 z)
              intro _ q; rw [← e3] at q; subst q
              rw [s3_5, if_pos rfl, if_neg (neq hy cd0)]
              intro _ q; rw [← e4] at q; subst q
              rw [nI_1]; exact hf
        · -- against
          obtain ⟨σs2', e2'⟩ : ∃ z, z = jo_g σs2 a y := ⟨_, rfl⟩
          have G2 : jo_F σ σs2' := by rw [e2']; exact (F2.u (Or.inr (Or.inr rfl))).u (Or.inl rfl)
          have t4 : σs2' 34 0 0 4 = nI (a + 1) := by rw [e2']; unfold jo_g; rw [sx_u_at]; simp
          have t_o : ∀ j, ¬ j = 4 → σs2' 34 0 0 j = σs2 34 0 0 j := fun j hj => by rw [e2']; unfold jo_g; rw [sx_u_at, if_neg (by omega), sx_u_row _ _ _ _ _ _ (by decide)]
          have t_35 : σs2' 35 0 0 = σs2 35 0 0 := by rw [e2']; unfold jo_g; rw [sx_u_row _ _ _ _ _ _ (by decide), sx_u_row _ _ _ _ _ _ (by decide)]
          have t_y : σs2' 36 0 0 a = nI y := by rw [e2']; unfold jo_g; rw [sx_u_row _ _ _ _ _ _ (by decide), sx_u_at]; simp
          have t_36 : ∀ j, j < a → σs2' 36 0 0 j = σ 36 0 0 j := fun j hj => by rw [e2']; unfold jo_g; rw [sx_u_row _ _ _ _ _ _ (by decide), sx_u_at, if_neg (by omega), s2_36]
          rw [← e2'] at hop
          have R2 : ∀ (r : Int32 × List Nat × List Nat × Nat) (s s' : sx_M), jo_F σs2' s → s 35 0 0 = σs2' 35 0 0 → s 36 0 0 = σs2' 36 0 0 → jo_R (i + 1) (a + 1) r s s' → jo_R i a (jo_2 y r) σ s' := fun r s s' hF h35 h36 h => jo_R.c2 (σ1 := s) (G2.tr hF) (by rw [h35, t_35]; exact s2_y) (by rw [h36]; exact t_y) (fun j hj => by rw [h35, t_35]; exact s2_35 j hj) (fun j hj => by rw [h36]; exact t_36 j hj) h
          have base : ∀ (e : Int32), jo_R i a (jo_2 y (e, [], [], c)) σ (sx_u σs2' 34 0 0 5 e) := fun e => by
            refine R2 _ σs2' _ jo_F.rf rfl rfl ?_
            refine jo_R.e (jo_F.rf.u (Or.inl rfl)) (by rw [sx_u_at]; simp) ?_ ?_ ?_ (fun j _ => by rw [sx_u_row _ _ _ _ _ _ (by decide)]) (fun j _ => by rw [sx_u_row _ _ _ _ _ _ (by decide)])
            · rw [sx_u_at, if_neg (by omega), t_o 2 (by decide)]; exact s2_2
            · rw [sx_u_at, if_neg (by omega)]; exact t4
            · rw [sx_u_at, if_neg (by omega), t_o 6 (by decide), s2_o 6 (by decide), g1 6 (by decide)]; exact f6
          by_cases ca : a = 1
          · refine ⟨sx_u σs2' 34 0 0 5 4, ?_, fun Q hQ => ⟨1, go Q 0 (mid Q _ ?_)⟩⟩
            · unfold jo_n; rw [if_pos he, eY, if_neg c3, if_neg c0, if_pos ca]; exact base 4
            · unfold wp_Jo_go_b111 wp_Jo_go_b143
              refine hop (fun z => absurd z c3) (fun _ z => by omega) (fun _ _ z => absurd z c0) (fun _ _ _ => ?_)
              rw [if_pos ca]
              intro _ q; subst q
              rw [show sx_u σs2' 34 0 0 5 4 34 0 0 5 = 4 by rw [sx_u_at]; simp, if_neg (by decide)]; exact hQ
          · by_cases cd0 : y = d
            · refine ⟨sx_u σs2' 34 0 0 5 0, ?_, fun Q hQ => ⟨1, go Q 0 (mid Q _ ?_)⟩⟩
              · unfold jo_n; rw [if_pos he, eY, if_neg c3, if_neg c0, if_neg ca, if_pos cd0]; exact base 0
              · unfold wp_Jo_go_b111 wp_Jo_go_b143
                refine hop (fun z => absurd z c3) (fun _ z => by omega) (fun _ _ z => absurd z c0) (fun _ _ _ => ?_)
                rw [if_neg ca]
                intro _ q; subst q
                rw [show sx_u σs2' 34 0 0 5 0 34 0 0 5 = 0 by rw [sx_u_at]; simp, if_pos rfl, if_pos (by rw [cd0])]; exact hQ
            · obtain ⟨σs3, e3⟩ : ∃ z, z = sx_u σs2' 34 0 0 5 0 := ⟨_, rfl⟩
              have s3_5 : σs3 34 0 0 5 = 0 := by rw [e3, sx_u_at]; simp
              have s3_o : ∀ j, ¬ j = 5 → σs3 34 0 0 j = σs2' 34 0 0 j := fun j hj => by rw [e3, sx_u_at, if_neg (by omega)]
              have F3 : jo_F σs2' σs3 := by rw [e3]; exact jo_F.rf.u (Or.inl rfl)
              obtain ⟨σs4, e4⟩ : ∃ z, z = sx_u σs3 34 0 0 6 (nI x) := ⟨_, rfl⟩
              have F4 : jo_F σs2' σs4 := by rw [e4]; exact F3.u (Or.inl rfl)
              have F4' : jo_F σ σs4 := G2.tr F4
              have s4_6 : σs4 34 0 0 6 = nI x := by rw [e4, sx_u_at]; simp
              have s4_o : ∀ j, ¬ j = 6 → σs4 34 0 0 j = σs3 34 0 0 j := fun j hj => by rw [e4, sx_u_at, if_neg (by omega)]
              have s4_35 : σs4 35 0 0 = σs2' 35 0 0 := by rw [e4, sx_u_row _ _ _ _ _ _ (by decide), e3, sx_u_row _ _ _ _ _ _ (by decide)]
              have s4_36 : σs4 36 0 0 = σs2' 36 0 0 := by rw [e4, sx_u_row _ _ _ _ _ _ (by decide), e3, sx_u_row _ _ _ _ _ _ (by decide)]
              obtain ⟨σs5, R5, w5⟩ := ih (i + 1) y x (jo_d σ d x) (a + 1) σs4 (by omega) hy hx (by omega) (F4'.pP hP) (fun p hp => by rw [F4' 27 0 p (by decide)]; exact h3 p hp) (fun p j hp hj => by rw [F4' 29 0 p (by decide)]; exact h29 p j hp hj) (by rw [s4_o 2 (by decide), s3_o 2 (by decide), t_o 2 (by decide)]; exact s2_2) (by rw [s4_o 4 (by decide), s3_o 4 (by decide)]; exact t4) s4_6
              rw [jo_n_c F4'.q] at R5
              refine ⟨σs5, ?_, fun Q hQ => ?_⟩
              · unfold jo_n; rw [if_pos he, eY, if_neg c3, if_neg c0, if_neg ca, if_neg cd0]
                exact R2 _ σs4 _ F4 s4_35 s4_36 R5
              · obtain ⟨f, hf⟩ := w5 Q hQ
                refine ⟨f + 1, go Q f (mid Q _ ?_)⟩
                unfold wp_Jo_go_b111 wp_Jo_go_b143
                refine hop (fun z => absurd z c3) (fun _ z => by omega) (fun _ _ z => absurd z c0) (fun _ _ _ => ?_)
                rw [if_neg ca]
                intro _ q; rw [← e3] at q; subst q
                rw [s3_5, if_pos rfl, if_neg (neq hy cd0)]
                intro _ q; rw [← e4] at q; subst q
                rw [nI_1]; exact hf
    · refine ⟨sx_u σ 34 0 0 5 (jo_e σ d x dn), ?_, fun Q hQ => ⟨1, go Q 0 ?_⟩⟩
      · unfold jo_n; rw [if_neg he]
        refine jo_R.e (jo_F.rf.u (Or.inl rfl)) (by rw [sx_u_at]; simp) ?_ ?_ ?_ (fun j _ => ?_) (fun j _ => ?_)
        · rw [sx_u_at, if_neg (by omega)]; exact f2
        · rw [sx_u_at, if_neg (by omega)]; exact f4
        · rw [sx_u_at, if_neg (by omega)]; exact f6
        · rw [sx_u_row _ _ _ _ _ _ (by decide)]
        · rw [sx_u_row _ _ _ _ _ _ (by decide)]
      · unfold wp_Jo_go_b54
        refine C_endAt h7 hx ?_
        intro _ q; subst q
        rw [show sx_u σ 34 0 0 5 (jo_e σ d x dn) 34 0 0 5 = jo_e σ d x dn by rw [sx_u_at]; simp, if_neg he]; exact hQ
/-- the class: DATA goes -/
theorem C_go {d s : Nat} (hd : d < P) (hs : s < P) (hP : pn_P P L v σ ρ) (h3 : ∀ p, p < P → pn_o P (σ 27 0 p 3)) (h29 : ∀ p j, p < P → j < P → pn_o P (σ 29 0 p j)) :
    ∃ σ2, jo_R 0 0 (jo_n σ d 20 s s 0 0) σ σ2 ∧ ∀ Q : sx_M → Prop, Q σ2 → wp_Jo_go (nI s) (nI d) σ Q := by
  obtain ⟨σs1, e1⟩ : ∃ z, z = sx_u (sx_u (sx_u σ 34 0 0 2 0) 34 0 0 4 0) 34 0 0 6 (nI s) := ⟨_, rfl⟩
  have F1 : jo_F σ σs1 := by rw [e1]; exact ((jo_F.rf.u (Or.inl rfl)).u (Or.inl rfl)).u (Or.inl rfl)
  obtain ⟨σ2, R2, w2⟩ := C_goLoop hd 20 0 s s 0 0 σs1 rfl hs hs (by decide) (F1.pP hP) (fun p hp => by rw [F1 27 0 p (by decide)]; exact h3 p hp) (fun p j hp hj => by rw [F1 29 0 p (by decide)]; exact h29 p j hp hj) (by rw [e1, sx_u_at, if_neg (by omega), sx_u_at, if_neg (by omega), sx_u_at]; simp; rfl) (by rw [e1, sx_u_at, if_neg (by omega), sx_u_at]; simp; rfl) (by rw [e1, sx_u_at]; simp)
  rw [jo_n_c F1.q] at R2
  obtain ⟨a1, a2, a3, a4, a5, a6, a7, a8, a9⟩ := R2
  refine ⟨σ2, ⟨F1.tr a1, a2, a3, a4, a5, fun j hj => absurd hj (Nat.not_lt_zero j), a7, fun j hj => absurd hj (Nat.not_lt_zero j), a9⟩, fun Q hQ => ?_⟩
  unfold wp_Jo_go
  intro _ q; subst q
  intro _ q; subst q
  intro _ q; rw [← e1] at q; subst q
  exact w2 Q hQ
end JOURB
