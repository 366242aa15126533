section CHOOSE2
variable {P L v m e : Nat} {σ σ2 ρ : sx_M} {θ : sx_L}
/-- nothing that a choice rests on has changed, but fields of the post p -/
def pn_q (e p : Nat) (σ σ2 : sx_M) : Prop := (∀ q p', (q = 18 ∨ q = 19 ∨ 28 ≤ q) → σ2 q e p' = σ q e p') ∧ (∀ p' j, (j ≤ 1 ∨ (¬ p' = p ∧ j ≤ 5)) → σ2 27 e p' j = σ 27 e p' j)
theorem pn_q.rf {p : Nat} : pn_q e p σ σ := ⟨fun _ _ _ => rfl, fun _ _ _ => rfl⟩
theorem pn_q.tr {p : Nat} {a b c : sx_M} (h : pn_q e p a b) (h2 : pn_q e p b c) : pn_q e p a c := ⟨fun q p' hq => (h2.1 q p' hq).trans (h.1 q p' hq), fun p' j hj => (h2.2 p' j hj).trans (h.2 p' j hj)⟩
theorem pn_of_c (hf : ∀ k n p, k < 16 → σ2 k n p = σ k n p) (hC : ∀ q p', (q = 18 ∨ q = 19 ∨ q = 28) → σ2 q e p' = σ q e p') (ho : ∀ p', σ2 27 e p' 0 = σ 27 e p' 0) (p k : Nat) : pn_of σ2 e p k = pn_of σ e p k := by
  unfold pn_of pn_nb pn_st
  rw [hC 28 p (by simp), hC 18 0 (by simp), hC 19 0 (by simp), ho p, ho k, hf 13 0 p (by decide), hf 8 0 0 (by decide)]
theorem pn_bo_c {as : Int32} {p : Nat} (h : ∀ k, pn_of σ2 e p k = pn_of σ e p k) : ∀ k, pn_bo σ2 e p as k = pn_bo σ e p as k
  | 0 => rfl
  | k + 1 => by unfold pn_bo; rw [pn_bo_c h k, h k]
theorem pn_kp_c {p : Nat} {b : Int32} (h : ∀ k, pn_of σ2 e p k = pn_of σ e p k) (h3 : σ2 27 e p 3 = σ 27 e p 3) (h14 : σ2 14 0 0 3 = σ 14 0 0 3) : pn_kp σ2 e p b = pn_kp σ e p b := by
  unfold pn_kp
  rw [h3, h14, h, h]
theorem pn_c_c {p : Nat} (h : ∀ k, pn_of σ2 e p k = pn_of σ e p k) (h3 : σ2 27 e p 3 = σ 27 e p 3) (h14 : σ2 14 0 0 3 = σ 14 0 0 3) : pn_c σ2 e p P = pn_c σ e p P := by
  unfold pn_c
  rw [pn_bo_c h, pn_kp_c h h3 h14, h3]
/-- what a choice would find stands already -/
def pn_zz (P : Nat) (σ : sx_M) (e p : Nat) : Prop := σ 27 e p 3 = pn_c σ e p P ∧ ((pn_c σ e p P = -2 ∧ σ 27 e p 2 = 9999) ∨ (¬ pn_c σ e p P = -2 ∧ σ 27 e p 2 = pn_of σ e p (pn_c σ e p P).toNatClampNeg ∧ σ 27 e p 2 ≤ σ 27 e p 4 + σ 14 0 0 4 ∧ ¬ σ 27 e p 2 < σ 27 e p 4))
/-- all have chosen, but for one -/
def pn_Z (P : Nat) (σ : sx_M) (e : Nat) (X : Nat → Prop) : Prop := ∀ p, 0 < p → p < P → ¬ X p → ¬ σ 27 e p 0 = 0 → σ 27 e p 5 ≤ 0 → pn_zz P σ e p
theorem pn_zz_c {p : Nat} (h : ∀ k, pn_of σ2 e p k = pn_of σ e p k) (h2 : ∀ j, 2 ≤ j → j ≤ 4 → σ2 27 e p j = σ 27 e p j) (h14 : ∀ j, σ2 14 0 0 j = σ 14 0 0 j) (hz : pn_zz P σ e p) : pn_zz P σ2 e p := by
  unfold pn_zz at hz ⊢
  rw [pn_c_c h (h2 3 (by decide) (by decide)) (h14 3), h2 3 (by decide) (by decide), h2 2 (by decide) (by decide), h2 4 (by decide) (by decide), h14 4, h]
  exact hz
/-- what is left alone keeps it -/
theorem pn_Z.mv {X : Nat → Prop} {x : Nat} (hZ : pn_Z P σ e X) (hf : pn_f e σ σ2) (hq : pn_q e x σ σ2) (hx : X x ∨ x = 0) : pn_Z P σ2 e X := by
  intro p p0 pP pX pon pr
  have hpx : ¬ p = x := fun z => by
    subst z
    rcases hx with h | h
    · exact pX h
    · omega
  have c16 : ∀ k n p, k < 16 → σ2 k n p = σ k n p := fun k n p hk => hf.1 k n p (by omega)
  refine pn_zz_c (fun k => pn_of_c c16 (fun q p' h => hq.1 q p' (by omega)) (fun p' => hq.2 p' 0 (Or.inl (by decide))) p k) (fun j h1 h2 => hq.2 p j (Or.inr ⟨hpx, by omega⟩)) (fun j => by rw [c16 14 0 0 (by decide)]) (hZ p p0 pP pX ?_ ?_)
  · rw [← hq.2 p 0 (Or.inl (by decide))]; exact pon
  · rw [← hq.2 p 5 (Or.inr ⟨hpx, by decide⟩)]; exact pr
/-- if nothing at all of that has changed -/
theorem pn_Z.mv0 {X : Nat → Prop} (hZ : pn_Z P σ e X) (hf : pn_f e σ σ2) (h1 : ∀ q p', (q = 18 ∨ q = 19 ∨ q = 28) → σ2 q e p' = σ q e p') (h2 : ∀ p' j, j ≤ 5 → σ2 27 e p' j = σ 27 e p' j) : pn_Z P σ2 e X := by
  intro p p0 pP pX pon pr
  have c16 : ∀ k n p, k < 16 → σ2 k n p = σ k n p := fun k n p hk => hf.1 k n p (by omega)
  refine pn_zz_c (fun k => pn_of_c c16 h1 (fun p' => h2 p' 0 (by decide)) p k) (fun j h3 h4 => h2 p j (by omega)) (fun j => by rw [c16 14 0 0 (by decide)]) (hZ p p0 pP pX ?_ ?_)
  · rw [← h2 p 0 (by decide)]; exact pon
  · rw [← h2 p 5 (by decide)]; exact pr
/-- all but sequences, timers, messages, counters -/
def pn_j (e : Nat) (σ σ2 : sx_M) : Prop := (∀ q p', (q = 18 ∨ q = 19 ∨ 28 ≤ q) → σ2 q e p' = σ q e p') ∧ (∀ p' j, j ≤ 5 → σ2 27 e p' j = σ 27 e p' j)
theorem pn_j.rf : pn_j e σ σ := ⟨fun _ _ _ => rfl, fun _ _ _ => rfl⟩
theorem pn_j.tr {a b c : sx_M} (h : pn_j e a b) (h2 : pn_j e b c) : pn_j e a c := ⟨fun q p' hq => (h2.1 q p' hq).trans (h.1 q p' hq), fun p' j hj => (h2.2 p' j hj).trans (h.2 p' j hj)⟩
theorem pn_l.j (h : pn_l e σ σ2) : pn_j e σ σ2 := ⟨fun q p' hq => h.1 q p' (by omega), fun p' j _ => by rw [h.1 27 p' (by decide)]⟩
theorem pn_k.j {p : Nat} (h : pn_k e p σ σ2) : pn_j e σ σ2 := ⟨h.1, fun p' j hj => h.2.1 p' j (Or.inr (by omega))⟩
theorem pn_j.q {p : Nat} (h : pn_j e σ σ2) : pn_q e p σ σ2 := ⟨h.1, fun p' j hj => h.2 p' j (by omega)⟩
theorem S_tail (hT : pn_T P L v m e σ ρ) {p : Nat} (hp : p < P) {o : Int32} (ho : pn_o P o) :
    ∃ m2 σ2 ρ2, pn_T P L v m2 e σ2 ρ2 ∧ pn_f e σ σ2 ∧ pn_g ρ ρ2 ∧ pn_j e σ σ2 ∧ (∀ Q : sx_M → Prop, Q σ2 → wp_En_choose_b87 e Q (nI p) e p o σ) ∧ (∀ Q : sx_M → sx_L → Prop, Q ρ2 θ → wp_Mo_chooses_b205 Q (nI p) o (σ 27 e p 3) ρ θ) := by
  have h7 := hT.p7
  by_cases c1 : σ 27 e p 3 = o
  · refine ⟨m, σ, ρ, hT, pn_f.rf, pn_g.rf, pn_j.rf, fun Q hQ => ?_, fun Q hQ => ?_⟩
    · unfold wp_En_choose_b87 wp_En_choose_b149; rw [if_pos c1]; exact hQ
    · unfold wp_Mo_chooses_b205; rw [if_pos c1]; exact hQ
  · -- the part behind the words that it is gone
    have rest : ∀ (m1 : Nat) (σ1 ρ1 : sx_M), pn_T P L v m1 e σ1 ρ1 → σ1 27 e p 3 = σ 27 e p 3 →
        ∃ m2 σ2 ρ2, pn_T P L v m2 e σ2 ρ2 ∧ pn_f e σ1 σ2 ∧ pn_g ρ1 ρ2 ∧ pn_j e σ1 σ2 ∧ (∀ Q : sx_M → Prop, Q σ2 → wp_En_choose_b125 e Q (nI p) e p σ1) ∧ (∀ Q : sx_M → sx_L → Prop, Q ρ2 θ → wp_Mo_chooses_b223 Q (nI p) (σ 27 e p 3) ρ1 θ) := by
      intro m1 σ1 ρ1 T1 e3
      have hpo := (T1.2.2.1.2.2.2.2.2.2.2.2.2.2.1 p hp).2.2.1
      rw [← e3]
      by_cases c2 : σ1 27 e p 3 = -2
      · refine ⟨m1, σ1, ρ1, T1, pn_f.rf, pn_g.rf, pn_j.rf, fun Q hQ => ?_, fun Q hQ => ?_⟩
        · unfold wp_En_choose_b125 wp_En_choose_b149; rw [if_pos c2]; exact hQ
        · unfold wp_Mo_chooses_b223 wp_Mo_chooses_b241; rw [if_pos ((hpo.neg h7).mpr c2)]; exact hQ
      · obtain ⟨q, hq, eq⟩ := hpo.resolve_left c2
        obtain ⟨m2, σ2, ρ2, T2, f2, g2, k2, wC2, wR2⟩ := S_report (θ := θ) T1 hp hq eq
        have e32 : σ2 27 e p 3 = nI q := by rw [k2.2.1 p 3 (by decide)]; exact eq
        obtain ⟨m3, σ3, ρ3, T3, f3, g3, l3, wC3, wR3⟩ := S_tell1 (θ := θ) T2 hp hq
        refine ⟨m3, σ3, ρ3, T3, f2.tr f3, g2.tr g3, pn_j.tr ⟨k2.1, fun p' j hj => k2.2.1 p' j (by omega)⟩ l3.j, fun Q hQ => ?_, fun Q hQ => ?_⟩
        · unfold wp_En_choose_b125 wp_En_choose_b149
          rw [if_neg c2]
          refine wC2 _ ?_
          rw [e32]
          exact wC3 _ hQ
        · unfold wp_Mo_chooses_b223 wp_Mo_chooses_b241
          rw [if_neg (fun z => c2 ((hpo.neg h7).mp z))]
          refine wR2 _ ?_
          rw [eq]
          exact wR3 _ hQ
    by_cases c2 : o = -2
    · obtain ⟨m2, σ2, ρ2, T2, f2, g2, j2, wC, wR⟩ := rest m σ ρ hT rfl
      refine ⟨m2, σ2, ρ2, T2, f2, g2, j2, fun Q hQ => ?_, fun Q hQ => ?_⟩
      · unfold wp_En_choose_b87; rw [if_neg c1, if_pos c2]; exact wC Q hQ
      · unfold wp_Mo_chooses_b205; rw [if_neg c1, if_pos ((ho.neg h7).mpr c2)]; exact wR Q hQ
    · obtain ⟨q, hq, eq⟩ := ho.resolve_left c2
      subst eq
      obtain ⟨m1, σ1, ρ1, T1, f1, g1, l1, wC1, wR1⟩ := S_tell2 (θ := θ) hT hp hq
      obtain ⟨m2, σ2, ρ2, T2, f2, g2, j2, wC, wR⟩ := rest m1 σ1 ρ1 T1 (by rw [l1.1 27 p (by decide)])
      refine ⟨m2, σ2, ρ2, T2, f1.tr f2, g1.tr g2, l1.j.tr j2, fun Q hQ => ?_, fun Q hQ => ?_⟩
      · unfold wp_En_choose_b87; rw [if_neg c1, if_neg c2]; exact wC1 _ (wC Q hQ)
      · unfold wp_Mo_chooses_b205; rw [if_neg c1, if_neg (nI_pos (by omega))]; exact wR1 _ (wR Q hQ)
theorem S_choose (hT : pn_T P L v m e σ ρ) {p : Nat} (hp : p < P) :
    ∃ m2 σ2 ρ2, pn_T P L v m2 e σ2 ρ2 ∧ pn_f e σ σ2 ∧ pn_g ρ ρ2 ∧ pn_q e p σ σ2 ∧ (0 < p → ¬ σ2 27 e p 0 = 0 → σ2 27 e p 5 ≤ 0 → pn_zz P σ2 e p) ∧ (∀ Q : sx_M → Prop, Q σ2 → wp_En_choose e (nI p) σ Q) ∧ (∀ Q : sx_M → sx_L → Prop, Q ρ2 θ → wp_Mo_chooses (nI p) ρ θ Q) := by
  have h7 := hT.p7
  have ip : vp_in (nI p) 7 := vp_in_nI (by omega) (by decide)
  have cp : (nI p).toNatClampNeg = p := nI_clamp (by omega)
  have e5 : ρ 68 0 0 (26 + 10 * p + 4) = σ 27 e p 5 := hT.fld hp (w := 4) (by decide)
  by_cases p0 : p = 0
  · subst p0
    refine ⟨m, σ, ρ, hT, pn_f.rf, pn_g.rf, pn_q.rf, fun z => absurd z (by decide), fun Q hQ => ?_, fun Q hQ => ?_⟩
    · unfold wp_En_choose wp_En_choose_b28; rw [if_pos (show nI 0 = 0 from rfl)]; exact ⟨ip, hQ⟩
    · unfold wp_Mo_chooses wp_Mo_chooses_b21; rw [if_pos (show nI 0 = 0 from rfl)]; exact hQ
  · have pn0 : ¬ nI p = 0 := nI_ne0 (by omega) (by omega)
    by_cases c1 : σ 27 e p 0 = 0
    · refine ⟨m, σ, ρ, hT, pn_f.rf, pn_g.rf, pn_q.rf, fun _ z => absurd c1 z, fun Q hQ => ?_, fun Q hQ => ?_⟩
      · unfold wp_En_choose wp_En_choose_b28; rw [if_neg pn0, cp, if_pos c1]; exact ⟨ip, hQ⟩
      · unfold wp_Mo_chooses wp_Mo_chooses_b21
        rw [if_neg pn0]
        refine R_isOn hT.2.2.1 rfl hp ?_
        rw [if_pos c1]; exact hQ
    · by_cases c2 : σ 27 e p 5 ≤ 0
      · -- it chooses
        obtain ⟨-, -, hpo, -⟩ := hT.2.2.1.2.2.2.2.2.2.2.2.2.2.1 p hp
        have hcv := pn_c_v hT hp
        have hbo : pn_o P (pn_bo σ e p (-2) P).1 := by
          rcases pn_bo_v hT.2.1 hT.2.2.1 hp (-2) P (Nat.le_refl _) with h | ⟨q, x, h1, h2, h3, h4, h5⟩
          · rw [h]; exact Or.inl rfl
          · rw [h4]; exact Or.inr ⟨q, h1, rfl⟩
        have hc : (pn_c σ e p P = -2 ∧ (if pn_c σ e p P = -2 then (9999 : Int32) else pn_of σ e p (pn_c σ e p P).toNatClampNeg) = 9999) ∨ ∃ q x, q < P ∧ x < 10100 ∧ pn_c σ e p P = nI q ∧ pn_of σ e p q = nI x ∧ (if pn_c σ e p P = -2 then (9999 : Int32) else pn_of σ e p (pn_c σ e p P).toNatClampNeg) = nI x := by
          rcases hcv with h | ⟨q, x, h1, h2, h3, h4⟩
          · exact Or.inl ⟨h, if_pos h⟩
          · refine Or.inr ⟨q, x, h1, h2, h3, h4, ?_⟩
            rw [h3, if_neg (pn_m2 (by omega)), nI_clamp (n := q) (by omega), h4]
        obtain ⟨σ2, ρ2, T2, f2, g2, k2, out, wC2, wR2⟩ := S_settle (θ := θ) hT hp (by omega) hc (σ 27 e p 2) (σ 27 e p 3)
        -- the timer, if the rank is another one
        have mid : ∃ σ3 ρ3, pn_T P L v m e σ3 ρ3 ∧ pn_f e σ2 σ3 ∧ pn_g ρ2 ρ3 ∧ pn_j e σ2 σ3 ∧ (∀ Q : sx_M → Prop, wp_En_choose_b87 e Q (nI p) e p (σ 27 e p 3) σ3 → (if σ2 27 e p 2 = σ 27 e p 2 then wp_En_choose_b87 e Q (nI p) e p (σ 27 e p 3) σ2 else wp_En_beginAnew e (nI p) σ2 (fun σ10 => wp_En_choose_b87 e Q (nI p) e p (σ 27 e p 3) σ10))) ∧ (∀ Q : sx_M → sx_L → Prop, wp_Mo_chooses_b205 Q (nI p) (σ 27 e p 3) (σ2 27 e p 3) ρ3 θ → pn_R Q (nI p) (σ 27 e p 2) (σ 27 e p 3) (σ2 27 e p 2) (σ2 27 e p 3) ρ2 θ) := by
          by_cases c3 : σ2 27 e p 2 = σ 27 e p 2
          · refine ⟨σ2, ρ2, T2, pn_f.rf, pn_g.rf, pn_j.rf, fun Q hQ => ?_, fun Q hQ => ?_⟩
            · rw [if_pos c3]; exact hQ
            · unfold pn_R; rw [if_pos c3]; exact hQ
          · obtain ⟨σ3, ρ3, T3, f3, g3, k3, wC3, wR3⟩ := S_beginAnew (θ := θ) T2 hp
            refine ⟨σ3, ρ3, T3, f3, g3, k3.j, fun Q hQ => ?_, fun Q hQ => ?_⟩
            · rw [if_neg c3]; exact wC3 _ hQ
            · unfold pn_R; rw [if_neg c3]; exact wR3 _ hQ
        obtain ⟨σ3, ρ3, T3, f3, g3, j3, wC3, wR3⟩ := mid
        have e33 : σ3 27 e p 3 = σ2 27 e p 3 := j3.2 p 3 (by decide)
        obtain ⟨m4, σ4, ρ4, T4, f4, g4, j4, wC4, wR4⟩ := S_tail (θ := θ) T3 hp hpo
        have j24 : pn_j e σ2 σ4 := j3.tr j4
        have hq2 : pn_q e p σ σ2 := ⟨k2.1, fun p' j hj => k2.2.1 p' j (by omega)⟩
        have zz : 0 < p → ¬ σ4 27 e p 0 = 0 → σ4 27 e p 5 ≤ 0 → pn_zz P σ4 e p := by
          intro _ _ h5
          have c16 : ∀ k n p, k < 16 → σ2 k n p = σ k n p := fun k n p hk => f2.1 k n p (by omega)
          have of2 : ∀ k, pn_of σ2 e p k = pn_of σ e p k := fun k => pn_of_c c16 (fun q p' h => hq2.1 q p' (by omega)) (fun p' => hq2.2 p' 0 (Or.inl (by decide))) p k
          have d16 : ∀ k n p, k < 16 → σ4 k n p = σ2 k n p := fun k n p hk => (f3.tr f4).1 k n p (by omega)
          have of4 : ∀ k, pn_of σ4 e p k = pn_of σ2 e p k := fun k => pn_of_c d16 (fun q p' h => j24.1 q p' (by omega)) (fun p' => j24.2 p' 0 (by decide)) p k
          refine pn_zz_c of4 (fun j h1 h2 => j24.2 p j (by omega)) (fun j => by rw [d16 14 0 0 (by decide)]) ?_
          obtain ⟨rs, r1, r2, r3⟩ := hT.2.1.2.2.2.2.1.2.2.2
          obtain ⟨ap, a1, a2⟩ := (hT.2.1.2.2.2.1 3 (by decide)).2
          rcases out with ⟨o1, o2, o3, o4⟩ | o5
          · have cc : pn_c σ2 e p P = pn_c σ e p P := by
              have bo : pn_bo σ2 e p (-2) P = pn_bo σ e p (-2) P := pn_bo_c of2 P
              have h14 : σ2 14 0 0 3 = σ 14 0 0 3 := by rw [c16 14 0 0 (by decide)]
              by_cases k0 : pn_kp σ e p (pn_bo σ e p (-2) P).1 = 0
              · have ec : pn_c σ e p P = (pn_bo σ e p (-2) P).1 := by unfold pn_c; rw [if_pos k0]
                rw [ec] at o1 ⊢
                unfold pn_c
                rw [bo]
                by_cases b2 : (pn_bo σ e p (-2) P).1 = -2
                · have : pn_kp σ2 e p (pn_bo σ e p (-2) P).1 = 0 := by unfold pn_kp; rw [o1, if_pos b2]
                  rw [if_pos this]
                · have : pn_kp σ2 e p (pn_bo σ e p (-2) P).1 = 1 := by
                    unfold pn_kp
                    rw [o1, if_neg b2, if_neg b2, of2, h14]
                    obtain ⟨q, x, h1, h2, h3, h4, h5⟩ := (pn_bo_v hT.2.1 hT.2.2.1 hp (-2) P (Nat.le_refl _)).resolve_left (fun z => b2 (by rw [z]))
                    rw [h4]
                    show (if 1000000 ≤ pn_of σ e p (nI q).toNatClampNeg then (0 : Int32) else if σ 14 0 0 3 < pn_of σ e p (nI q).toNatClampNeg - pn_of σ e p (nI q).toNatClampNeg then 0 else 1) = 1
                    rw [nI_clamp (n := q) (by omega), h5, if_neg (show ¬ (1000000 : Int32) ≤ nI x from nI_ge (a := x) (b := 1000000) (by omega) (by decide)), if_neg]
                    rw [Int32.sub_self, a2]
                    exact nI_pos (by omega)
                  rw [if_neg (by rw [this]; decide), o1]
              · have ec : pn_c σ e p P = σ 27 e p 3 := by unfold pn_c; rw [if_neg k0]
                rw [ec] at o1
                exact pn_c_c of2 o1 h14
            unfold pn_zz
            rw [cc, of2]
            refine ⟨o1, ?_⟩
            rcases hc with ⟨q1, q2⟩ | ⟨q, x, h1, h2, h3, h4, q2⟩
            · exact Or.inl ⟨q1, o2.trans q2⟩
            · have q2' : ¬ nI q = -2 := pn_m2 (by omega)
              have ex : σ2 27 e p 2 = nI x := o2.trans q2
              refine Or.inr ⟨by rw [h3]; exact q2', by rw [h3, nI_clamp (n := q) (by omega), h4]; exact ex, ?_, ?_⟩
              · rw [ex, o3, q2, c16 14 0 0 (by decide)]
                have o4' : nI x ≤ σ 27 e p 4 + σ 14 0 0 4 := by
                  rcases o4 with z | z
                  · exact absurd (h3.symm.trans z) q2'
                  · rw [q2] at z; exact z
                by_cases cx : nI x < σ 27 e p 4
                · rw [if_pos cx]
                  obtain ⟨ri, i1, i2⟩ := (hT.2.1.2.2.2.1 4 (by decide)).2
                  rw [i2, nI_add]
                  exact nI_le (by omega) (by omega)
                · rw [if_neg cx]; exact o4'
              · rw [ex, o3, q2]
                by_cases cx : nI x < σ 27 e p 4
                · rw [if_pos cx]; exact nI_nlt (Nat.le_refl _) (by omega)
                · rw [if_neg cx]; exact cx
          · exfalso
            have : σ4 27 e p 5 = nI rs := by rw [j24.2 p 5 (by decide), o5, r3]
            rw [this] at h5
            exact nI_nle (n := rs) (by omega) (by omega) h5
        refine ⟨m4, σ4, ρ4, T4, (f2.tr f3).tr f4, (g2.tr g3).tr g4, hq2.tr j24.q, zz, fun Q hQ => ?_, fun Q hQ => ?_⟩
        · unfold wp_En_choose
          rw [if_neg pn0, cp, if_neg c1, if_pos c2]
          refine ⟨ip, C_best hT.2.1 hp (-2) ?_⟩
          refine C_isKept hT hp hbo ?_
          have fin : wp_En_choose_b71 e Q (nI p) e p (σ 27 e p 2) (σ 27 e p 3) e (nI p) (pn_c σ e p P) σ := by
            unfold wp_En_choose_b71
            exact wC2 _ (wC3 Q (wC4 Q hQ))
          unfold pn_c at fin
          by_cases c4 : pn_kp σ e p (pn_bo σ e p (-2) P).1 = 0
          · rw [if_pos c4] at fin ⊢; exact fin
          · rw [if_neg c4] at fin ⊢; exact fin
        · unfold wp_Mo_chooses
          rw [if_neg pn0]
          refine R_isOn hT.2.2.1 rfl hp ?_
          rw [if_neg c1]
          refine R_of (i := 4) rfl rfl (by omega) (by decide) ?_
          rw [e5, if_pos c2]
          refine R_of (i := 1) rfl rfl (by omega) (by decide) ?_
          refine R_of (i := 2) rfl rfl (by omega) (by decide) ?_
          rw [hT.fld hp (w := 1) (by decide), hT.fld hp (w := 2) (by decide)]
          refine R_best hT hp (-2) (-1) (fun k hk hn => ?_) ?_
          · obtain ⟨l, hl, el, -⟩ := pn_nb_l hT.2.1 hp hk hn
            have h16 := hT.2.1.1.2.1
            exact ⟨fun z => absurd (el.symm.trans z) (pn_m1 (by omega)), fun z => absurd z (pn_m2 (by omega))⟩
          · rw [pn_cc hT hp]
            have fin := wR2 Q (wR3 Q (by rw [← e33]; exact wR4 Q hQ))
            rcases hcv with h | ⟨q, x, h1, h2, h3, h4⟩
            · rw [h] at fin ⊢
              rw [if_pos rfl] at fin ⊢
              rw [if_neg (by decide)]
              exact fin
            · have q2 : ¬ nI q = -2 := pn_m2 (by omega)
              rw [h3, if_neg q2, if_neg q2, nI_clamp (n := q) (by omega)] at fin
              rw [h3, if_neg q2, if_pos (nI_pos' (by omega))]
              have e1 : ((96 : Int32) + (7 * nI p)) + nI q = nI (96 + 7 * p + q) := ix_2 96 7 p q
              rw [e1, nI_clamp (n := 96 + 7 * p + q) (by omega), (hT.rt hp h1).1]
              refine ⟨vp_in_nI (by omega) (by decide), ?_⟩
              have hof := h4
              unfold pn_of at hof
              by_cases d1 : 9999 ≤ σ 28 e p q
              · rw [if_pos d1] at hof
                exact absurd hof.symm (pn_big h2)
              · rw [if_neg d1] at hof
                by_cases d2 : pn_nb σ e p q = 0
                · rw [if_pos d2] at hof
                  exact absurd hof.symm (pn_big h2)
                · rw [if_neg d2] at hof
                  obtain ⟨l, hl, el, ecl⟩ := pn_nb_l hT.2.1 hp h1 d2
                  rw [ecl] at hof
                  refine R_stepTo hT.2.1 hT.2.2.1 rfl rfl hp h1 el hl ?_
                  rw [hof, ← h4]
                  exact fin
      · refine ⟨m, σ, ρ, hT, pn_f.rf, pn_g.rf, pn_q.rf, fun _ _ z => absurd z c2, fun Q hQ => ?_, fun Q hQ => ?_⟩
        · unfold wp_En_choose wp_En_choose_b28; rw [if_neg pn0, cp, if_neg c1, if_neg c2]; exact ⟨ip, hQ⟩
        · unfold wp_Mo_chooses wp_Mo_chooses_b21
          rw [if_neg pn0]
          refine R_isOn hT.2.2.1 rfl hp ?_
          rw [if_neg c1]
          refine R_of (i := 4) rfl rfl (by omega) (by decide) ?_
          rw [e5, if_neg c2]; exact hQ
end CHOOSE2
