section RST
variable {P L v m n : Nat} {σ σ2 ρ ρ2 : sx_M} {θ : sx_L}
/-- the places of a post in the row -/
def pn_ir (p j : Nat) : Prop := (26 + 10 * p ≤ j ∧ j < 36 + 10 * p) ∨ (96 + 7 * p ≤ j ∧ j < 103 + 7 * p) ∨ (145 + 7 * p ≤ j ∧ j < 152 + 7 * p) ∨ (194 + 7 * p ≤ j ∧ j < 201 + 7 * p)
theorem pn_pcr {F s t q : Int32} {p : Nat} (pc : pn_pc F s t q n p σ) (pr : pn_pr F s t q p ρ) : (∀ w, w < 10 → ρ 68 0 0 (26 + 10 * p + w) = σ 27 n p (w + 1)) ∧ (∀ j, j < 7 → ρ 68 0 0 (96 + 7 * p + j) = σ 28 n p j ∧ ρ 68 0 0 (145 + 7 * p + j) = σ 29 n p j) := by
  obtain ⟨⟨c0, c1, c2, c3, c4, c5, c6, c7, c8, c9, c10⟩, cj⟩ := pc
  obtain ⟨⟨r0, r1, r2, r3, r4, r5, r6, r7, r8, r9⟩, rj⟩ := pr
  refine ⟨fun w hw => ?_, fun j hj => ?_⟩
  · rcases (show w = 0 ∨ w = 1 ∨ w = 2 ∨ w = 3 ∨ w = 4 ∨ w = 5 ∨ w = 6 ∨ w = 7 ∨ w = 8 ∨ w = 9 by omega) with rfl | rfl | rfl | rfl | rfl | rfl | rfl | rfl | rfl | rfl
    · rw [r0, c1]
    · rw [r1, c2]
    · rw [r2, c3]
    · rw [r3, c4]
    · rw [r4, c5]
    · rw [r5, c6]
    · rw [r6, c7]
    · rw [r7, c8]
    · rw [r8, c9]
    · rw [r9, c10]
  · rw [(rj j hj).1, (rj j hj).2, (cj j hj).1, (cj j hj).2]; exact ⟨rfl, rfl⟩
theorem pn_pcv {F s t q : Int32} {p : Nat} (hF : ∃ a, 2 ≤ a ∧ a ≤ 300 ∧ F = nI a) (pc : pn_pc F s t q n p σ) : pn_r 99 (σ 27 n p 1) ∧ pn_r 20000 (σ 27 n p 2) ∧ pn_o P (σ 27 n p 3) ∧ pn_r 9999 (σ 27 n p 4) ∧ ∃ q, 2 ≤ q ∧ q ≤ 300 ∧ σ 27 n p 7 = nI q := by
  obtain ⟨⟨c0, c1, c2, c3, c4, c5, c6, c7, c8, c9, c10⟩, cj⟩ := pc
  rw [c1, c2, c3, c4, c7]
  refine ⟨⟨0, by decide, rfl⟩, ?_, Or.inl rfl, ⟨9999, by decide, rfl⟩, hF⟩
  by_cases c : p = 0
  · rw [if_pos c]; exact ⟨10, by decide, rfl⟩
  · rw [if_neg c]; exact ⟨9999, by decide, rfl⟩
theorem pn_N.rst (h : pn_N P L m σ n ρ 68 0) {p0 : Nat} (hp0 : p0 < P) {F s t q : Int32} (hF : ∃ a, 2 ≤ a ∧ a ≤ 300 ∧ F = nI a) (hC : ∀ q' p', ¬ ((27 ≤ q' ∧ q' ≤ 30) ∧ p' = p0) → σ2 q' n p' = σ q' n p') (hR : ∀ j, ¬ j = 9 → ¬ pn_ir p0 j → ρ2 68 0 0 j = ρ 68 0 0 j) (pc : pn_pc F s t q n p0 σ2) (pr : pn_pr F s t q p0 ρ2) (h9 : ρ2 68 0 0 9 = nI (pn_b (fun p => σ2 27 n p 0) P)) : pn_N P L m σ2 n ρ2 68 0 := by
  obtain ⟨a0, a1, a2, a3, a4, a5, a6, a7, a8, a9, a10, a11, a12⟩ := h
  obtain ⟨hP, hL⟩ := a0
  obtain ⟨x1, x2⟩ := pn_pcr pc pr
  have x3 := pn_pcv (P := P) hF pc
  obtain ⟨⟨c0, c1, c2, c3, c4, c5, c6, c7, c8, c9, c10⟩, cj⟩ := pc
  unfold pn_ir at hR
  refine ⟨⟨hP, hL⟩, fun f hf => ?_, ⟨a2.1, ?_, ?_⟩, ⟨fun l hl => ?_, ?_⟩, ⟨fun p hp => ?_, h9⟩, fun l hl => ?_, fun p hp w hw => ?_, fun p j hp hj => ?_, fun p j hp hj q => ?_, fun i hi => ?_, fun p hp => ?_, fun p j hp hj => ?_, fun q => ?_⟩
  · rw [hR _ (by omega) (by omega), hC 16 0 (by omega)]; exact a1 f hf
  · rw [hR _ (by omega) (by omega)]; exact a2.2.1
  · rw [hC 20 0 (by omega)]; exact a2.2.2
  · rw [hC 18 0 (by omega)]; exact a3.1 l hl
  · rw [hC 18 0 (by omega), hR _ (by omega) (by omega)]; exact a3.2
  · by_cases c : p = p0
    · rw [c, c0]; exact Or.inr rfl
    · rw [hC 27 p (by omega)]; exact a4.1 p hp
  · rw [hC 19 0 (by omega), hR _ (by omega) (by omega)]; exact a5 l hl
  · by_cases c : p = p0
    · subst c; rw [Nat.zero_add]; exact x1 w hw
    · rw [hC 27 p (by omega), hR _ (by omega) (by omega)]; exact a6 p hp w hw
  · by_cases c : p = p0
    · subst c; rw [Nat.zero_add, Nat.zero_add]
      refine ⟨(x2 j (by omega)).1, (x2 j (by omega)).2, fun z => absurd (cj j (by omega)).2 z⟩
    · rw [hC 28 p (by omega), hC 29 p (by omega), hC 30 p (by omega), hR _ (by omega) (by omega), hR _ (by omega) (by omega), hR _ (by omega) (by omega)]; exact a7 p j hp hj
  · by_cases c : p = p0
    · subst c; rw [Nat.zero_add, (x2 j hj).2]; exact (cj j hj).2
    · rw [hR _ (by omega) (by omega)]; exact a8 p j hp hj q
  · rw [hC 21 0 (by omega), hC 22 0 (by omega), hC 23 0 (by omega), hC 24 0 (by omega), hC 25 0 (by omega), hC 26 0 (by omega), hR _ (by omega) (by omega), hR _ (by omega) (by omega)]; exact a9 i hi
  · by_cases c : p = p0
    · subst c; exact x3
    · rw [hC 27 p (by omega)]; exact a10 p hp
  · by_cases c : p = p0
    · subst c; rw [(cj j (by omega)).1, (cj j (by omega)).2]; exact ⟨⟨9999, by decide, rfl⟩, Or.inl rfl⟩
    · rw [hC 28 p (by omega), hC 29 p (by omega)]; exact a11 p j hp hj
  · by_cases c : 0 = p0
    · subst c; exact c3
    · rw [hC 27 0 (by omega)]; exact a12 q
theorem pn_P.F (hP : pn_P P L v σ ρ) : ∃ a, 2 ≤ a ∧ a ≤ 300 ∧ σ 14 0 0 0 = nI a := by
  obtain ⟨hh, q1, q2, q3⟩ := hP.2.2.2.2.1.1
  exact ⟨2 * hh, by omega, by omega, q3⟩
/-- promise 9 -/
theorem M_power (h : pn_I σ ρ θ) (x y : Int32) (hy : pn_z y) : pn_ok (wp_St_power x y σ) (wp_Mo_power x y ρ θ) := by
  obtain ⟨P, L, v, m, hP, hN, hA, hW⟩ := id h
  have h7 := hP.1.1
  have c9 : (9 : Int32).toNatClampNeg = 9 := rfl
  have i9 : vp_in 9 643 := in_I (n := 9) rfl (by decide) (by decide)
  have none_ : (x < 0 ∨ nI P ≤ x) → pn_ok (wp_St_power x y σ) (wp_Mo_power x y ρ θ) := fun c => by
    refine ⟨0, σ, ρ, θ, h, fun Q hQ => ?_, fun Q hQ => ?_⟩
    · unfold wp_St_power wp_St_power_b31
      refine C_isPost0 hP c ?_
      rw [if_pos rfl]; exact hQ
    · unfold wp_Mo_power wp_Mo_power_b35
      refine R_isPost0 hP c ?_
      rw [if_pos rfl]; exact hQ
  rcases pk_ix x (n := P) (by omega) with c | c | ⟨j, hj, rfl⟩
  · exact none_ (Or.inl c)
  · exact none_ (Or.inr c)
  · have cj : (nI j).toNatClampNeg = j := nI_clamp (by omega)
    have ij : vp_in (nI j) 7 := vp_in_nI (by omega) (by decide)
    by_cases j0 : j = 0
    · have z : nI j = 0 := by rw [j0]; rfl
      refine ⟨0, σ, ρ, θ, h, fun Q hQ => ?_, fun Q hQ => ?_⟩
      · unfold wp_St_power wp_St_power_b31
        refine C_isPost1 hP rfl hj ?_
        rw [if_neg (by decide), if_pos z]; exact hQ
      · unfold wp_Mo_power wp_Mo_power_b35
        refine R_isPost1 hP rfl hj ?_
        rw [if_neg (by decide), if_pos z]; exact hQ
    · have jn : ¬ nI j = 0 := nI_ne0 (by omega) (by omega)
      have rJ : ∀ Q : Int32 → sx_M → sx_L → Prop, wp_Mo_power_b32 Q (nI j) y (σ 27 0 j 0) y ρ θ → wp_Mo_power (nI j) y ρ θ Q := fun Q hQ => by
        unfold wp_Mo_power
        refine R_isPost1 hP rfl hj ?_
        rw [if_neg (by decide), if_neg jn, c9, R_onb hN hj]
        refine ⟨i9, ?_⟩
        rcases hy with z | z
        · rw [if_pos z]; rw [z] at hQ ⊢; exact hQ
        · rw [if_neg (by rw [z]; decide)]; rw [z] at hQ ⊢; exact hQ
      by_cases c1 : σ 27 0 j 0 = y
      · refine ⟨0, σ, ρ, θ, h, fun Q hQ => ?_, fun Q hQ => ?_⟩
        · unfold wp_St_power wp_St_power_b31
          refine C_isPost1 hP rfl hj ?_
          rw [if_neg (by decide), if_neg jn, cj, if_pos c1]; exact ⟨ij, hQ⟩
        · refine rJ Q ?_
          unfold wp_Mo_power_b32 wp_Mo_power_b35
          rw [if_pos c1]; exact hQ
      · obtain ⟨σ1, ρ1, T1, A1, W1, s1, k1, wC1, wR1⟩ := S_mark hP hN hA hW
        have on1 : σ1 27 0 j 0 = σ 27 0 j 0 := by rw [s1 27 j (by decide) (by decide)]
        obtain ⟨ρa, ra⟩ : ∃ z, z = sx_u ρ1 68 0 0 9 ((ρ1 68 0 0 9) ^^^ (1 <<< (nI j &&& 31))) := ⟨_, rfl⟩
        have pa : ∀ q n p, ¬ (q = 68 ∧ n = 0 ∧ p = 0) → ρa q n p = ρ1 q n p := fun q n p h => by rw [ra, sx_u_row _ _ _ _ _ _ h]
        have pj : ∀ i, ¬ i = 9 → ρa 68 0 0 i = ρ1 68 0 0 i := fun i hi => by rw [ra, sx_u_at, if_neg (by omega)]
        have e9 : ρ1 68 0 0 9 = nI (pn_b (fun p => σ1 27 0 p 0) P) := T1.2.2.1.2.2.2.2.1.2
        have fl : ∀ g : Nat → Int32, (∀ i, ¬ i = j → g i = σ1 27 0 i 0) → g j = y → ρa 68 0 0 9 = nI (pn_b g P) := fun g h1 h2 => by
          rw [ra, sx_u_at, if_pos ⟨rfl, rfl, rfl, rfl⟩, e9]
          exact pn_b_flip (f := fun p => σ1 27 0 p 0) hj (by omega) (fun l hl => T1.2.2.1.2.2.2.2.1.1 l hl) h1 (by rw [h2]; exact hy) (by rw [h2]; show ¬ y = σ1 27 0 j 0; rw [on1]; exact fun z => c1 z.symm)
        have Pa : pn_P P L v σ1 ρa := T1.2.1.mvA (fun _ _ _ _ _ => rfl) (by rw [pa 50 0 0 (by decide)]) (fun k h1 h2 => pa k 0 0 (by omega))
        have step : ∃ σ2 ρ2, pn_T P L v m 0 σ2 ρ2 ∧ pn_W P L σ2 ρ2 θ ∧ (∀ Q : sx_M → Prop, Q σ2 → (if y = 0 then (vp_in (nI j) 7 ∧ (∀ σ10 : sx_M, σ10 = sx_u σ1 27 0 (nI j).toNatClampNeg 0 0 → Q σ10)) else wp_En_beginPost 0 (nI j) σ1 Q)) ∧ (∀ Q : sx_M → sx_L → Prop, Q ρ2 θ → (if y = 0 then Q ρa θ else wp_Mo_asAtFirst (nI j) ρa θ Q)) := by
          by_cases y0 : y = 0
          · obtain ⟨σ2, e2⟩ : ∃ z, z = sx_u σ1 27 0 j 0 0 := ⟨_, rfl⟩
            have o2 : ∀ q n p, ¬ (q = 27 ∧ n = 0 ∧ p = j) → σ2 q n p = σ1 q n p := fun q n p h => by rw [e2, sx_u_row _ _ _ _ _ _ h]
            have on2 : ∀ p i, ¬ (p = j ∧ i = 0) → σ2 27 0 p i = σ1 27 0 p i := fun p i hi => by rw [e2, sx_u_at, if_neg (by omega)]
            have onj : σ2 27 0 j 0 = 0 := by rw [e2, sx_u_at]; simp
            have N2 : pn_N P L m σ2 0 ρa 68 0 := by
              refine T1.2.2.1.setO (fun q p hq => o2 q 0 p (by omega)) (fun p i hi => on2 p i (by omega)) (fun i hi => pj i (by omega)) (fun p hp => ?_) (fl (fun p => σ2 27 0 p 0) (fun i hi => on2 i 0 (by omega)) (by rw [onj, y0]))
              by_cases cp : p = j
              · rw [cp, onj]; exact Or.inl rfl
              · rw [on2 p 0 (by omega)]; exact T1.2.2.1.2.2.2.2.1.1 p hp
            refine ⟨σ2, ρa, ⟨T1.1, Pa.mvA (fun k n p h1 h2 => o2 k n p (by omega)) rfl (fun _ _ _ => rfl), N2, by rw [o2 31 0 0 (by omega), pa 50 0 0 (by decide)]; exact T1.2.2.2⟩, W1.mvF (fun k n p hk => o2 k n p (by omega)) (fun k n p hk => pa k n p (by omega)), fun Q hQ => ?_, fun Q hQ => ?_⟩
            · rw [if_pos y0, cj]
              refine ⟨ij, fun _ q => ?_⟩
              rw [← e2] at q; subst q; exact hQ
            · rw [if_pos y0]; exact hQ
          · have y1 : y = 1 := hy.resolve_left y0
            obtain ⟨σ2, o2, pc, wC2⟩ := C_begin (e := 0) T1.2.1 (p := j) (by omega)
            obtain ⟨ρ2, p2, q2, pr, wR2⟩ := R_first (θ := θ) Pa (p := j) (by omega)
            have hsd : ρa 50 0 0 31 = σ1 31 0 0 3 := by rw [pa 50 0 0 (by decide)]; exact T1.2.2.2.symm
            have htk : ρa 68 0 0 0 = σ1 16 0 0 1 := by rw [pj 0 (by decide)]; exact T1.tick
            have hsq : ρa 68 0 0 (26 + 10 * j + 5) = σ1 27 0 j 6 := by rw [pj _ (by omega)]; exact T1.fld hj (w := 5) (by decide)
            rw [hsd, htk, hsq] at pr
            have N2 : pn_N P L m σ2 0 ρ2 68 0 := by
              refine T1.2.2.1.rst hj Pa.F (fun q p hq => o2 q 0 p (by omega)) (fun i hi hir => ?_) pc pr ?_
              · unfold pn_ir at hir; rw [q2 i (by omega), pj i hi]
              · rw [q2 9 (by omega)]
                refine fl (fun p => σ2 27 0 p 0) (fun i hi => by rw [o2 27 0 i (by omega)]) ?_
                rw [y1]; exact pc.1.1
            refine ⟨σ2, ρ2, ⟨T1.1, Pa.mvA (fun k n p h1 h2 => o2 k n p (by omega)) (by rw [p2 50 0 0 (by decide)]) (fun k h1 h2 => p2 k 0 0 (by omega)), N2, ?_⟩, W1.mvF (fun k n p hk => o2 k n p (by omega)) (fun k n p hk => by rw [p2 k n p (by omega), pa k n p (by omega)]), fun Q hQ => ?_, fun Q hQ => ?_⟩
            · rw [o2 31 0 0 (by omega), p2 50 0 0 (by decide)]; exact hsd.symm
            · rw [if_neg y0]; exact wC2 Q hQ
            · rw [if_neg y0]; exact wR2 Q hQ
        obtain ⟨σ2, ρ2, T2, W2, wC2, wR2⟩ := step
        obtain ⟨σ3, ρ3, I3, wC3, wR3⟩ := S_end T2 W2
        refine ⟨1, σ3, ρ3, θ, I3, fun Q hQ => ?_, fun Q hQ => ?_⟩
        · unfold wp_St_power
          refine C_isPost1 hP rfl hj ?_
          rw [if_neg (by decide), if_neg jn]
          refine ⟨ij, ?_⟩
          rw [cj, if_neg c1]
          refine wC1 _ ?_
          have := wC2 (fun σ10 => wp_St_power_b65 Q σ10) (by unfold wp_St_power_b65; exact wC3 _ hQ)
          rw [cj] at this
          exact this
        · refine rJ Q ?_
          unfold wp_Mo_power_b32
          rw [if_neg c1]
          refine wR1 _ ⟨i9, i9, fun _ q => ?_⟩
          rw [c9, ← ra] at q; subst q
          exact wR2 (fun ρ9 θ9 => wp_Mo_power_b63 Q ρ9 θ9) (by unfold wp_Mo_power_b63; exact wR3 _ hQ)
end RST
