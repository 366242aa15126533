section CHOOSE2
variable {P L v m e : Nat} {σ ρ : sx_M} {θ : sx_L}
theorem S_tail (hT : pn_T P L v m e σ ρ) {p : Nat} (hp : p < P) {o : Int32} (ho : pn_o P o) :
    ∃ m2 σ2 ρ2, pn_T P L v m2 e σ2 ρ2 ∧ pn_f e σ σ2 ∧ pn_g ρ ρ2 ∧ (∀ Q : sx_M → Prop, Q σ2 → wp_En_choose_b87 e Q (nI p) e p o σ) ∧ (∀ Q : sx_M → sx_L → Prop, Q ρ2 θ → wp_Mo_chooses_b205 Q (nI p) o (σ 27 e p 3) ρ θ) := by
  have h7 := hT.p7
  by_cases c1 : σ 27 e p 3 = o
  · refine ⟨m, σ, ρ, hT, pn_f.rf, pn_g.rf, fun Q hQ => ?_, fun Q hQ => ?_⟩
    · unfold wp_En_choose_b87 wp_En_choose_b149; rw [if_pos c1]; exact hQ
    · unfold wp_Mo_chooses_b205; rw [if_pos c1]; exact hQ
  · -- the part behind the words that it is gone
    have rest : ∀ (m1 : Nat) (σ1 ρ1 : sx_M), pn_T P L v m1 e σ1 ρ1 → σ1 27 e p 3 = σ 27 e p 3 →
        ∃ m2 σ2 ρ2, pn_T P L v m2 e σ2 ρ2 ∧ pn_f e σ1 σ2 ∧ pn_g ρ1 ρ2 ∧ (∀ Q : sx_M → Prop, Q σ2 → wp_En_choose_b125 e Q (nI p) e p σ1) ∧ (∀ Q : sx_M → sx_L → Prop, Q ρ2 θ → wp_Mo_chooses_b223 Q (nI p) (σ 27 e p 3) ρ1 θ) := by
      intro m1 σ1 ρ1 T1 e3
      have hpo := (T1.2.2.1.2.2.2.2.2.2.2.2.2.2.1 p hp).2.2.1
      rw [← e3]
      by_cases c2 : σ1 27 e p 3 = -2
      · refine ⟨m1, σ1, ρ1, T1, pn_f.rf, pn_g.rf, fun Q hQ => ?_, fun Q hQ => ?_⟩
        · unfold wp_En_choose_b125 wp_En_choose_b149; rw [if_pos c2]; exact hQ
        · unfold wp_Mo_chooses_b223 wp_Mo_chooses_b241; rw [if_pos ((hpo.neg h7).mpr c2)]; exact hQ
      · obtain ⟨q, hq, eq⟩ := hpo.resolve_left c2
        obtain ⟨m2, σ2, ρ2, T2, f2, g2, k2, wC2, wR2⟩ := S_report (θ := θ) T1 hp hq eq
        have e32 : σ2 27 e p 3 = nI q := by rw [k2.2.1 p 3 (by decide)]; exact eq
        obtain ⟨m3, σ3, ρ3, T3, f3, g3, l3, wC3, wR3⟩ := S_tell1 (θ := θ) T2 hp hq
        refine ⟨m3, σ3, ρ3, T3, f2.tr f3, g2.tr g3, fun Q hQ => ?_, fun Q hQ => ?_⟩
        · unfold wp_En_choose_b125 wp_En_choose_b149
          rw [if_neg c2]
          refine wC2 _ ?_
          rw [e32]
          exact wC3 _ hQ
        · unfold wp_Mo_chooses_b223 wp_Mo_chooses_b241
          rw [if_neg (fun z => c2 ((hpo.neg h7).mp z))]
          refine wR2 _ ?_
          rw [eq]
          exact wR3 _ hQ
    by_cases c2 : o = -2
    · obtain ⟨m2, σ2, ρ2, T2, f2, g2, wC, wR⟩ := rest m σ ρ hT rfl
      refine ⟨m2, σ2, ρ2, T2, f2, g2, fun Q hQ => ?_, fun Q hQ => ?_⟩
      · unfold wp_En_choose_b87; rw [if_neg c1, if_pos c2]; exact wC Q hQ
      · unfold wp_Mo_chooses_b205; rw [if_neg c1, if_pos ((ho.neg h7).mpr c2)]; exact wR Q hQ
    · obtain ⟨q, hq, eq⟩ := ho.resolve_left c2
      subst eq
      obtain ⟨m1, σ1, ρ1, T1, f1, g1, l1, wC1, wR1⟩ := S_tell2 (θ := θ) hT hp hq
      obtain ⟨m2, σ2, ρ2, T2, f2, g2, wC, wR⟩ := rest m1 σ1 ρ1 T1 (by rw [l1.1 27 p (by decide)])
      refine ⟨m2, σ2, ρ2, T2, f1.tr f2, g1.tr g2, fun Q hQ => ?_, fun Q hQ => ?_⟩
      · unfold wp_En_choose_b87; rw [if_neg c1, if_neg c2]; exact wC1 _ (wC Q hQ)
      · unfold wp_Mo_chooses_b205; rw [if_neg c1, if_neg (nI_pos (by omega))]; exact wR1 _ (wR Q hQ)
theorem S_choose (hT : pn_T P L v m e σ ρ) {p : Nat} (hp : p < P) :
    ∃ m2 σ2 ρ2, pn_T P L v m2 e σ2 ρ2 ∧ pn_f e σ σ2 ∧ pn_g ρ ρ2 ∧ (∀ Q : sx_M → Prop, Q σ2 → wp_En_choose e (nI p) σ Q) ∧ (∀ Q : sx_M → sx_L → Prop, Q ρ2 θ → wp_Mo_chooses (nI p) ρ θ Q) := by
  have h7 := hT.p7
  have ip : vp_in (nI p) 7 := vp_in_nI (by omega) (by decide)
  have cp : (nI p).toNatClampNeg = p := nI_clamp (by omega)
  have e5 : ρ 68 0 0 (26 + 10 * p + 4) = σ 27 e p 5 := hT.fld hp (w := 4) (by decide)
  by_cases p0 : p = 0
  · subst p0
    refine ⟨m, σ, ρ, hT, pn_f.rf, pn_g.rf, fun Q hQ => ?_, fun Q hQ => ?_⟩
    · unfold wp_En_choose wp_En_choose_b28; rw [if_pos (show nI 0 = 0 from rfl)]; exact ⟨ip, hQ⟩
    · unfold wp_Mo_chooses wp_Mo_chooses_b21; rw [if_pos (show nI 0 = 0 from rfl)]; exact hQ
  · have pn0 : ¬ nI p = 0 := nI_ne0 (by omega) (by omega)
    by_cases c1 : σ 27 e p 0 = 0
    · refine ⟨m, σ, ρ, hT, pn_f.rf, pn_g.rf, fun Q hQ => ?_, fun Q hQ => ?_⟩
      · unfold wp_En_choose wp_En_choose_b28; rw [if_neg pn0, cp, if_pos c1]; exact ⟨ip, hQ⟩
      · unfold wp_Mo_chooses wp_Mo_chooses_b21
        rw [if_neg pn0]
        refine R_isOn hT.2.2.1 rfl hp ?_
        rw [if_pos c1]; exact hQ
    · by_cases c2 : σ 27 e p 5 ≤ 0
      · -- it chooses
        obtain ⟨-, -, hpo, -⟩ := hT.2.2.1.2.2.2.2.2.2.2.2.2.2.1 p hp
        have hcv := pn_c_v hT hp
        have hbo : pn_o P (pn_bo σ e p (-2) P).1 := by
          rcases pn_bo_v hT.2.1 hT.2.2.1 hp (-2) P (Nat.le_refl _) with h | ⟨q, x, h1, h2, h3, h4, h5⟩
          · rw [h]; exact Or.inl rfl
          · rw [h4]; exact Or.inr ⟨q, h1, rfl⟩
        have hc : (pn_c σ e p P = -2 ∧ (if pn_c σ e p P = -2 then (9999 : Int32) else pn_of σ e p (pn_c σ e p P).toNatClampNeg) = 9999) ∨ ∃ q x, q < P ∧ x < 10100 ∧ pn_c σ e p P = nI q ∧ pn_of σ e p q = nI x ∧ (if pn_c σ e p P = -2 then (9999 : Int32) else pn_of σ e p (pn_c σ e p P).toNatClampNeg) = nI x := by
          rcases hcv with h | ⟨q, x, h1, h2, h3, h4⟩
          · exact Or.inl ⟨h, if_pos h⟩
          · refine Or.inr ⟨q, x, h1, h2, h3, h4, ?_⟩
            rw [h3, if_neg (pn_m2 (by omega)), nI_clamp (n := q) (by omega), h4]
        obtain ⟨σ2, ρ2, T2, f2, g2, k2, -, wC2, wR2⟩ := S_settle (θ := θ) hT hp (by omega) hc (σ 27 e p 2) (σ 27 e p 3)
        -- the timer, if the rank is another one
        have mid : ∃ σ3 ρ3, pn_T P L v m e σ3 ρ3 ∧ pn_f e σ2 σ3 ∧ pn_g ρ2 ρ3 ∧ σ3 27 e p 3 = σ2 27 e p 3 ∧ (∀ Q : sx_M → Prop, wp_En_choose_b87 e Q (nI p) e p (σ 27 e p 3) σ3 → (if σ2 27 e p 2 = σ 27 e p 2 then wp_En_choose_b87 e Q (nI p) e p (σ 27 e p 3) σ2 else wp_En_beginAnew e (nI p) σ2 (fun σ10 => wp_En_choose_b87 e Q (nI p) e p (σ 27 e p 3) σ10))) ∧ (∀ Q : sx_M → sx_L → Prop, wp_Mo_chooses_b205 Q (nI p) (σ 27 e p 3) (σ2 27 e p 3) ρ3 θ → pn_R Q (nI p) (σ 27 e p 2) (σ 27 e p 3) (σ2 27 e p 2) (σ2 27 e p 3) ρ2 θ) := by
          by_cases c3 : σ2 27 e p 2 = σ 27 e p 2
          · refine ⟨σ2, ρ2, T2, pn_f.rf, pn_g.rf, rfl, fun Q hQ => ?_, fun Q hQ => ?_⟩
            · rw [if_pos c3]; exact hQ
            · unfold pn_R; rw [if_pos c3]; exact hQ
          · obtain ⟨σ3, ρ3, T3, f3, g3, k3, wC3, wR3⟩ := S_beginAnew (θ := θ) T2 hp
            refine ⟨σ3, ρ3, T3, f3, g3, k3.2.1 p 3 (Or.inr (by decide)), fun Q hQ => ?_, fun Q hQ => ?_⟩
            · rw [if_neg c3]; exact wC3 _ hQ
            · unfold pn_R; rw [if_neg c3]; exact wR3 _ hQ
        obtain ⟨σ3, ρ3, T3, f3, g3, e33, wC3, wR3⟩ := mid
        obtain ⟨m4, σ4, ρ4, T4, f4, g4, wC4, wR4⟩ := S_tail (θ := θ) T3 hp hpo
        refine ⟨m4, σ4, ρ4, T4, (f2.tr f3).tr f4, (g2.tr g3).tr g4, fun Q hQ => ?_, fun Q hQ => ?_⟩
        · unfold wp_En_choose
          rw [if_neg pn0, cp, if_neg c1, if_pos c2]
          refine ⟨ip, C_best hT.2.1 hp (-2) ?_⟩
          refine C_isKept hT hp hbo ?_
          have fin : wp_En_choose_b71 e Q (nI p) e p (σ 27 e p 2) (σ 27 e p 3) e (nI p) (pn_c σ e p P) σ := by
            unfold wp_En_choose_b71
            exact wC2 _ (wC3 Q (wC4 Q hQ))
          unfold pn_c at fin
          by_cases c4 : pn_kp σ e p (pn_bo σ e p (-2) P).1 = 0
          · rw [if_pos c4] at fin ⊢; exact fin
          · rw [if_neg c4] at fin ⊢; exact fin
        · unfold wp_Mo_chooses
          rw [if_neg pn0]
          refine R_isOn hT.2.2.1 rfl hp ?_
          rw [if_neg c1]
          refine R_of (i := 4) rfl rfl (by omega) (by decide) ?_
          rw [e5, if_pos c2]
          refine R_of (i := 1) rfl rfl (by omega) (by decide) ?_
          refine R_of (i := 2) rfl rfl (by omega) (by decide) ?_
          rw [hT.fld hp (w := 1) (by decide), hT.fld hp (w := 2) (by decide)]
          refine R_best hT hp (-2) (-1) (fun k hk hn => ?_) ?_
          · obtain ⟨l, hl, el, -⟩ := pn_nb_l hT.2.1 hp hk hn
            have h16 := hT.2.1.1.2.1
            exact ⟨fun z => absurd (el.symm.trans z) (pn_m1 (by omega)), fun z => absurd z (pn_m2 (by omega))⟩
          · rw [pn_cc hT hp]
            have fin := wR2 Q (wR3 Q (by rw [← e33]; exact wR4 Q hQ))
            rcases hcv with h | ⟨q, x, h1, h2, h3, h4⟩
            · rw [h] at fin ⊢
              rw [if_pos rfl] at fin ⊢
              rw [if_neg (by decide)]
              exact fin
            · have q2 : ¬ nI q = -2 := pn_m2 (by omega)
              rw [h3, if_neg q2, if_neg q2, nI_clamp (n := q) (by omega)] at fin
              rw [h3, if_neg q2, if_pos (nI_pos' (by omega))]
              have e1 : ((96 : Int32) + (7 * nI p)) + nI q = nI (96 + 7 * p + q) := ix_2 96 7 p q
              rw [e1, nI_clamp (n := 96 + 7 * p + q) (by omega), (hT.rt hp h1).1]
              refine ⟨vp_in_nI (by omega) (by decide), ?_⟩
              have hof := h4
              unfold pn_of at hof
              by_cases d1 : 9999 ≤ σ 28 e p q
              · rw [if_pos d1] at hof
                exact absurd hof.symm (pn_big h2)
              · rw [if_neg d1] at hof
                by_cases d2 : pn_nb σ e p q = 0
                · rw [if_pos d2] at hof
                  exact absurd hof.symm (pn_big h2)
                · rw [if_neg d2] at hof
                  obtain ⟨l, hl, el, ecl⟩ := pn_nb_l hT.2.1 hp h1 d2
                  rw [ecl] at hof
                  refine R_stepTo hT.2.1 hT.2.2.1 rfl rfl hp h1 el hl ?_
                  rw [hof, ← h4]
                  exact fin
      · refine ⟨m, σ, ρ, hT, pn_f.rf, pn_g.rf, fun Q hQ => ?_, fun Q hQ => ?_⟩
        · unfold wp_En_choose wp_En_choose_b28; rw [if_neg pn0, cp, if_neg c1, if_neg c2]; exact ⟨ip, hQ⟩
        · unfold wp_Mo_chooses wp_Mo_chooses_b21
          rw [if_neg pn0]
          refine R_isOn hT.2.2.1 rfl hp ?_
          rw [if_neg c1]
          refine R_of (i := 4) rfl rfl (by omega) (by decide) ?_
          rw [e5, if_neg c2]; exact hQ
end CHOOSE2
