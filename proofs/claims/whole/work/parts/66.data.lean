section DATA
variable {P L v m n : Nat} {σ σ2 ρ ρ2 : sx_M} {θ : sx_L}
/-- can DATA go? -/
theorem S_can (hP : pn_P P L v σ ρ) (hN : pn_N P L m σ 0 ρ 67 0) (x y : Int32) : ((∀ Q : Int32 → sx_M → Prop, Q 0 σ → wp_St_canSend x y σ Q) ∧ ∀ Q : Int32 → sx_M → sx_L → Prop, Q 0 ρ θ → wp_Mo_canSend x y ρ θ Q) ∨ ∃ a b, a < P ∧ b < P ∧ x = nI a ∧ y = nI b ∧ (∀ Q : Int32 → sx_M → Prop, Q 1 σ → wp_St_canSend x y σ Q) ∧ ∀ Q : Int32 → sx_M → sx_L → Prop, Q 1 ρ θ → wp_Mo_canSend x y ρ θ Q := by
  have h7 := hP.1.1
  have c9 : (9 : Int32).toNatClampNeg = 9 := rfl
  have i9 : vp_in 9 643 := in_I (n := 9) rfl (by decide) (by decide)
  rcases two_ix h7 x y with hb | ⟨a, b, ha, hb, hn, rfl, rfl⟩
  · refine Or.inl ⟨fun Q hQ => ?_, fun Q hQ => ?_⟩
    · unfold wp_St_canSend wp_St_canSend_b29 wp_St_canSend_b30
      refine C_two0 hP hb ?_
      rw [if_pos rfl]; exact ⟨Or.inl rfl, hQ⟩
    · unfold wp_Mo_canSend wp_Mo_canSend_b55 wp_Mo_canSend_b56
      exact R_two0 hP hb ⟨Or.inl rfl, hQ⟩
  · have zz : ∀ p, p < P → σ 27 0 p 0 = 0 ∨ σ 27 0 p 0 = 1 := fun p hp => hN.2.2.2.2.1.1 p hp
    by_cases o : σ 27 0 a 0 = 1 ∧ σ 27 0 b 0 = 1
    · refine Or.inr ⟨a, b, ha, hb, rfl, rfl, fun Q hQ => ?_, fun Q hQ => ?_⟩
      · unfold wp_St_canSend wp_St_canSend_b29 wp_St_canSend_b30
        refine C_two1 hP ha hb hn ?_
        rw [if_neg (by decide)]
        refine C_isOn1 hP ha ?_
        rw [o.1, if_neg (by decide)]
        refine C_isOn1 hP hb ?_
        rw [o.2, if_neg (by decide)]
        exact ⟨Or.inr rfl, hQ⟩
      · unfold wp_Mo_canSend wp_Mo_canSend_b55 wp_Mo_canSend_b56
        refine R_two1 hP ha hb hn ?_
        rw [c9, R_onb hN ha, o.1, if_pos rfl, R_onb hN hb, o.2, if_pos rfl]
        exact ⟨i9, i9, Or.inr rfl, hQ⟩
    · refine Or.inl ⟨fun Q hQ => ?_, fun Q hQ => ?_⟩
      · unfold wp_St_canSend wp_St_canSend_b29 wp_St_canSend_b30
        refine C_two1 hP ha hb hn ?_
        rw [if_neg (by decide)]
        refine C_isOn1 hP ha ?_
        rcases zz a ha with z | z
        · rw [z, if_pos rfl, if_pos rfl]; exact ⟨Or.inl rfl, hQ⟩
        · rw [z, if_neg (by decide)]
          refine C_isOn1 hP hb ?_
          rcases zz b hb with z2 | z2
          · rw [z2, if_pos rfl, if_pos rfl]; exact ⟨Or.inl rfl, hQ⟩
          · exact absurd ⟨z, z2⟩ o
      · unfold wp_Mo_canSend wp_Mo_canSend_b55 wp_Mo_canSend_b56
        refine R_two1 hP ha hb hn ?_
        rw [c9, R_onb hN ha]
        refine ⟨i9, ?_⟩
        rcases zz a ha with z | z
        · rw [z, if_neg (by decide)]; exact ⟨Or.inl rfl, hQ⟩
        · rw [z, if_pos rfl, R_onb hN hb]
          refine ⟨i9, ?_⟩
          rcases zz b hb with z2 | z2
          · rw [z2, if_neg (by decide)]; exact ⟨Or.inl rfl, hQ⟩
          · exact absurd ⟨z, z2⟩ o
theorem jo_F.qc (h : jo_F σ σ2) : pn_qc σ σ2 := fun k n p hk => h k n p (by omega)
theorem jo_G.qr (h : jo_G ρ ρ2) (h0 : ρ 50 0 0 31 = 0) : pn_qr ρ ρ2 := ⟨fun k hk => h.1 k 0 0 (by omega), fun j hj => h.2 j (by omega), by rw [h.2 31 (by decide)]; exact h0⟩
theorem pn_N.o29 {k b : Nat} (hN : pn_N P L m σ n ρ k b) : ∀ p j, p < P → j < P → pn_o P (σ 29 n p j) := fun p j hp hj => (hN.2.2.2.2.2.2.2.2.2.2.2.1 p j hp hj).2
/-- what DATA would do, on both sides -/
theorem S_would (hP : pn_P P L v σ ρ) (hN : pn_N P L m σ 0 ρ 67 0) (hW : pn_W P L σ ρ θ) {s d : Nat} (hs : s < P) (hd : d < P) : ∃ r : Int32 × List Nat × List Nat × Nat, ∃ σ2 ρ2, r.2.1.length ≤ 20 ∧ r.2.2.1.length ≤ 2 ∧ jo_R 0 0 r σ σ2 ∧ pn_qc σ σ2 ∧ pn_qr ρ ρ2 ∧ ρ2 50 0 0 33 = nI r.2.1.length ∧ ρ2 50 0 0 34 = nI r.2.2.1.length ∧ (∀ j, j < r.2.1.length → ρ2 70 0 0 j = nI (r.2.1.getD j 0)) ∧ (∀ Q : sx_M → Prop, Q σ2 → wp_Jo_go (nI s) (nI d) σ Q) ∧ ∀ Q : Int32 → sx_M → sx_L → Prop, Q r.1 ρ2 θ → wp_Mo_copies ρ θ (fun ρ θ => wp_Mo_sends (nI s) (nI d) ρ θ Q) := by
  have h7 := hP.1.1
  obtain ⟨σ2, R2, wC⟩ := C_go hd hs hP hN.par hN.o29
  obtain ⟨ρ1, T1, q1, wR1⟩ := R_copies hP hN hW
  obtain ⟨σ3, ρ3, -, -, -, -, b5, b6⟩ := S_sends (θ := θ) hd hs T1
  obtain ⟨l1, l2, -, -⟩ := jo_n_v h7 hN.par hN.o29 hd 20 s s 0 0 hs hs (by decide)
  obtain ⟨c1, c2, c3, -, c5⟩ := b5
  rw [Nat.zero_add] at c2 c3 l2
  refine ⟨_, σ2, ρ3, l1, l2, R2, R2.1.qc, q1.tr (c1.qr q1.2.2), c2, c3, fun j hj => ?_, wC, fun Q hQ => wR1 _ (b6 Q hQ)⟩
  have := c5 j hj
  rw [Nat.zero_add] at this
  exact this
/-- promise 23 -/
theorem M_would (h : pn_I σ ρ θ) (x y z : Int32) : pn_ok (wp_St_would x y z σ) (wp_Mo_would x y z ρ θ) := by
  obtain ⟨P, L, v, m, hP, hN, hA, hW⟩ := id h
  rcases S_can (θ := θ) hP hN x y with ⟨c1, c2⟩ | ⟨a, b, ha, hb, rfl, rfl, c1, c2⟩
  · refine ⟨-1, σ, ρ, θ, h, fun Q hQ => ?_, fun Q hQ => ?_⟩
    · unfold wp_St_would
      refine c1 _ ?_
      rw [if_pos rfl]; exact hQ
    · unfold wp_Mo_would wp_Mo_would_b18
      refine c2 _ ?_
      rw [if_pos rfl]; exact hQ
  · obtain ⟨r, σ2, ρ2, l1, l2, R2, qc, qr, g3, g4, -, wC, wR⟩ := S_would hP hN hW ha hb
    obtain ⟨-, r5, r2, r4, -⟩ := R2
    rw [Nat.zero_add] at r2 r4
    rcases pk_ix z (n := 3) (by decide) with c | c | ⟨j, hj, rfl⟩
    · have hz : ∀ i : Nat, i < 3 → ¬ z = nI i := fun i hi e => by rw [e] at c; exact nI_pos (by omega) c
      refine ⟨-1, σ2, ρ, θ, h.look qc (pn_qr.rf hW.2.2.2.1.2.2), fun Q hQ => ?_, fun Q hQ => ?_⟩
      · unfold wp_St_would
        refine c1 _ ?_
        rw [if_neg (by decide)]
        refine wC _ ?_
        rw [if_neg (show ¬ z = 0 from hz 0 (by decide)), if_neg (show ¬ z = 1 from hz 1 (by decide)), if_neg (show ¬ z = 2 from hz 2 (by decide))]; exact hQ
      · unfold wp_Mo_would wp_Mo_would_b18
        refine c2 _ ?_
        rw [if_neg (by decide)]
        refine R_in0 (Or.inl c) ?_
        rw [if_pos rfl]; exact hQ
    · have hz : ∀ i : Nat, i < 3 → ¬ z = nI i := fun i hi e => by rw [e] at c; exact nI_ge hi (by decide) c
      refine ⟨-1, σ2, ρ, θ, h.look qc (pn_qr.rf hW.2.2.2.1.2.2), fun Q hQ => ?_, fun Q hQ => ?_⟩
      · unfold wp_St_would
        refine c1 _ ?_
        rw [if_neg (by decide)]
        refine wC _ ?_
        rw [if_neg (show ¬ z = 0 from hz 0 (by decide)), if_neg (show ¬ z = 1 from hz 1 (by decide)), if_neg (show ¬ z = 2 from hz 2 (by decide))]; exact hQ
      · unfold wp_Mo_would wp_Mo_would_b18
        refine c2 _ ?_
        rw [if_neg (by decide)]
        by_cases cz : z < 0
        · refine R_in0 (Or.inl cz) ?_
          rw [if_pos rfl]; exact hQ
        · refine R_in0 (Or.inr (le_lt (N := 2) (by decide) cz c)) ?_
          rw [if_pos rfl]; exact hQ
    · have i2 : ¬ 2 < nI j := nI_nlt (a := 2) (by omega) (by decide)
      have cases3 : j = 0 ∨ j = 1 ∨ j = 2 := by omega
      rcases cases3 with rfl | rfl | rfl
      · refine ⟨r.1, σ2, ρ2, θ, h.look qc qr, fun Q hQ => ?_, fun Q hQ => ?_⟩
        · unfold wp_St_would
          refine c1 _ ?_
          rw [if_neg (by decide)]
          refine wC _ ?_
          rw [if_pos (show nI 0 = 0 from rfl), r5]; exact hQ
        · unfold wp_Mo_would wp_Mo_would_b57
          refine c2 _ ?_
          rw [if_neg (by decide)]
          refine R_in1 (nI_pos (by omega)) i2 ?_
          rw [if_neg (by decide)]
          refine wR _ ?_
          rw [if_pos (show nI 0 = 0 from rfl)]; exact hQ
      · refine ⟨nI r.2.1.length, σ2, ρ2, θ, h.look qc qr, fun Q hQ => ?_, fun Q hQ => ?_⟩
        · unfold wp_St_would
          refine c1 _ ?_
          rw [if_neg (by decide)]
          refine wC _ ?_
          rw [if_neg (show ¬ nI 1 = 0 by decide), if_pos (show nI 1 = 1 from rfl), r2]; exact hQ
        · unfold wp_Mo_would wp_Mo_would_b57
          refine c2 _ ?_
          rw [if_neg (by decide)]
          refine R_in1 (nI_pos (by omega)) i2 ?_
          rw [if_neg (by decide)]
          refine wR _ ?_
          rw [if_neg (show ¬ nI 1 = 0 by decide), if_pos (show nI 1 = 1 from rfl), g3]; exact hQ
      · refine ⟨nI r.2.2.1.length, σ2, ρ2, θ, h.look qc qr, fun Q hQ => ?_, fun Q hQ => ?_⟩
        · unfold wp_St_would
          refine c1 _ ?_
          rw [if_neg (by decide)]
          refine wC _ ?_
          rw [if_neg (show ¬ nI 2 = 0 by decide), if_neg (show ¬ nI 2 = 1 by decide), if_pos (show nI 2 = 2 from rfl), r4]; exact hQ
        · unfold wp_Mo_would wp_Mo_would_b57
          refine c2 _ ?_
          rw [if_neg (by decide)]
          refine R_in1 (nI_pos (by omega)) i2 ?_
          rw [if_neg (by decide)]
          refine wR _ ?_
          rw [if_neg (show ¬ nI 2 = 0 by decide), if_neg (show ¬ nI 2 = 1 by decide), g4]; exact hQ
/-- promise 24 -/
theorem M_hop (h : pn_I σ ρ θ) (x y z : Int32) : pn_ok (wp_St_hop x y z σ) (wp_Mo_hop x y z ρ θ) := by
  obtain ⟨P, L, v, m, hP, hN, hA, hW⟩ := id h
  rcases S_can (θ := θ) hP hN x y with ⟨c1, c2⟩ | ⟨a, b, ha, hb, rfl, rfl, c1, c2⟩
  · refine ⟨-1, σ, ρ, θ, h, fun Q hQ => ?_, fun Q hQ => ?_⟩
    · unfold wp_St_hop
      refine c1 _ ?_
      rw [if_pos rfl]; exact hQ
    · unfold wp_Mo_hop
      refine c2 _ ?_
      rw [if_pos rfl]; exact hQ
  · obtain ⟨r, σ2, ρ2, l1, l2, R2, qc, qr, g3, -, g70, wC, wR⟩ := S_would hP hN hW ha hb
    obtain ⟨-, -, r2, -, -, -, r7, -⟩ := R2
    rw [Nat.zero_add] at r2
    have none_ : (z < 0 ∨ nI r.2.1.length ≤ z) → pn_ok (wp_St_hop (nI a) (nI b) z σ) (wp_Mo_hop (nI a) (nI b) z ρ θ) := fun c => by
      refine ⟨-1, σ2, ρ2, θ, h.look qc qr, fun Q hQ => ?_, fun Q hQ => ?_⟩
      · unfold wp_St_hop wp_St_hop_b47 wp_St_hop_b48
        refine c1 _ ?_
        rw [if_neg (by decide)]
        refine wC _ ?_
        rw [r2]
        by_cases cz : z < 0
        · rw [if_pos cz]; exact hQ
        · rw [if_neg cz, if_pos (c.resolve_left cz)]; exact hQ
      · unfold wp_Mo_hop wp_Mo_hop_b46
        refine c2 _ ?_
        rw [if_neg (by decide)]
        refine wR _ ?_
        rw [g3]
        refine R_in0 ?_ ?_
        · by_cases cz : z < 0
          · exact Or.inl cz
          · refine Or.inr ?_
            have c' := c.resolve_left cz
            by_cases l0 : r.2.1.length = 0
            · rw [l0]
              obtain ⟨q, hq, rfl⟩ := nI_of cz
              exact Int32.lt_of_lt_of_le (show nI 0 - 1 < 0 by decide) (nI_pos' hq)
            · rw [show nI r.2.1.length - 1 = nI (r.2.1.length - 1) from pk_sub (b := 1) (by omega)]
              obtain ⟨q, hq, rfl⟩ := nI_of cz
              rw [nI_leI (by omega) hq] at c'
              exact nI_lt (by omega) hq
        · rw [if_pos rfl]; exact hQ
    rcases pk_ix z (n := r.2.1.length) (by omega) with c | c | ⟨j, hj, rfl⟩
    · exact none_ (Or.inl c)
    · exact none_ (Or.inr c)
    · have cj : (nI j).toNatClampNeg = j := nI_clamp (by omega)
      have ij : vp_in (nI j) 20 := vp_in_nI (by omega) (by decide)
      have e35 : σ2 35 0 0 j = nI (r.2.1.getD j 0) := by have := r7 j hj; rw [Nat.zero_add] at this; exact this
      refine ⟨nI (r.2.1.getD j 0), σ2, ρ2, θ, h.look qc qr, fun Q hQ => ?_, fun Q hQ => ?_⟩
      · unfold wp_St_hop wp_St_hop_b48
        refine c1 _ ?_
        rw [if_neg (by decide)]
        refine wC _ ?_
        rw [if_neg (nI_pos (by omega)), r2, if_neg (nI_ge hj (by omega)), cj, e35]
        exact ⟨ij, hQ⟩
      · unfold wp_Mo_hop wp_Mo_hop_b46
        refine c2 _ ?_
        rw [if_neg (by decide)]
        refine wR _ ?_
        rw [g3, show nI r.2.1.length - 1 = nI (r.2.1.length - 1) from pk_sub (b := 1) (by omega)]
        refine R_in1 (nI_pos (by omega)) (nI_nlt (by omega) (by omega)) ?_
        rw [if_neg (by decide), cj, g70 j hj]
        exact ⟨ij, hQ⟩
/-- one row of the pairs -/
theorem S_reIn {a : Nat} : ∀ (c d : Nat) (n : Int32) (σ ρ : sx_M), d + c = P → pn_P P L v σ ρ → pn_N P L m σ 0 ρ 67 0 → pn_W P L σ ρ θ →
    ∃ n2 σ2 ρ2, pn_qc σ σ2 ∧ pn_qr ρ ρ2 ∧ (∀ (k4 : Int32 → Int32 → sx_M → Prop) (Q : Int32 → sx_M → Prop), k4 n2 (nI a + 1) σ2 → ∃ f, wp_St_reached_b17 k4 Q f n (nI a) (nI d) σ) ∧ ∀ (k4 : Int32 → Int32 → sx_M → sx_L → Prop) (Q : Int32 → sx_M → sx_L → Prop), k4 n2 (nI a + 1) ρ2 θ → ∃ f, wp_Mo_reached_b19 k4 Q f n (nI a) (nI d) ρ θ
  | 0, d, n, σ, ρ, hd, hP, hN, hW => by
    have h7 := hP.1.1
    refine ⟨n, σ, ρ, pn_qc.rf, pn_qr.rf hW.2.2.2.1.2.2, fun k4 Q h => ⟨1, ?_⟩, fun k4 Q h => ⟨1, ?_⟩⟩
    · rw [wp_St_reached_b17, hP.2.1.1, if_pos (nI_le (by omega) (by omega))]; exact h
    · rw [wp_Mo_reached_b19, hP.rP, if_pos (nI_le (by omega) (by omega))]; exact ⟨hP.live.1, h⟩
  | c + 1, d, n, σ, ρ, hd, hP, hN, hW => by
    have h7 := hP.1.1
    have nC : ¬ nI P ≤ nI d := nI_ge (by omega) (by omega)
    rcases S_can (θ := θ) hP hN (nI a) (nI d) with ⟨c1, c2⟩ | ⟨a', b', ha, hb, ea, eb, c1, c2⟩
    · obtain ⟨n2, σ2, ρ2, q1, q2, w1, w2⟩ := S_reIn c (d + 1) n σ ρ (by omega) hP hN hW
      refine ⟨n2, σ2, ρ2, q1, q2, fun k4 Q h => ?_, fun k4 Q h => ?_⟩
      · obtain ⟨f, hf⟩ := w1 k4 Q h
        refine ⟨f + 1, ?_⟩
        rw [wp_St_reached_b17, hP.2.1.1, if_neg nC]
        refine c1 _ ?_
        rw [if_pos rfl]; unfold wp_St_reached_b64; rw [nI_1]; exact hf
      · obtain ⟨f, hf⟩ := w2 k4 Q h
        refine ⟨f + 1, ?_⟩
        rw [wp_Mo_reached_b19, hP.rP, if_neg nC]
        refine ⟨hP.live.1, c2 _ ?_⟩
        rw [if_pos rfl]; unfold wp_Mo_reached_b60; rw [nI_1]; exact hf
    · obtain ⟨r, σ1, ρ1, l1, l2, R2, qc, qr, -, -, -, wC, wR⟩ := S_would hP hN hW ha hb
      obtain ⟨-, r5, -⟩ := R2
      obtain ⟨n1, en⟩ : ∃ z : Int32, z = if r.1 = 0 then n + 1 else n := ⟨_, rfl⟩
      obtain ⟨n2, σ2, ρ2, q1, q2, w1, w2⟩ := S_reIn c (d + 1) n1 σ1 ρ1 (by omega) (hP.look qc qr) (hN.look qc qr) (hW.look qc qr)
      refine ⟨n2, σ2, ρ2, qc.tr q1, qr.tr q2, fun k4 Q h => ?_, fun k4 Q h => ?_⟩
      · obtain ⟨f, hf⟩ := w1 k4 Q h
        refine ⟨f + 1, ?_⟩
        rw [wp_St_reached_b17, hP.2.1.1, if_neg nC]
        refine c1 _ ?_
        rw [if_neg (by decide), ea, eb]
        refine wC _ ?_
        rw [← ea, ← eb]
        unfold wp_St_reached_b62 wp_St_reached_b64
        rw [r5, nI_1]
        rw [en] at hf
        by_cases c0 : r.1 = 0
        · rw [if_pos c0] at hf ⊢; exact hf
        · rw [if_neg c0] at hf ⊢; rw [show n + 0 = n from Int32.add_zero n]; exact hf
      · obtain ⟨f, hf⟩ := w2 k4 Q h
        refine ⟨f + 1, ?_⟩
        rw [wp_Mo_reached_b19, hP.rP, if_neg nC]
        refine ⟨hP.live.1, c2 _ ?_⟩
        rw [if_neg (by decide), ea, eb]
        refine wR _ ?_
        rw [← ea, ← eb]
        unfold wp_Mo_reached_b60
        rw [nI_1]
        rw [en] at hf
        by_cases c0 : r.1 = 0
        · rw [if_pos c0] at hf ⊢; exact hf
        · rw [if_neg c0] at hf ⊢; exact hf
theorem S_reOut : ∀ (c a : Nat) (n : Int32) (σ ρ : sx_M), a + c = P → pn_P P L v σ ρ → pn_N P L m σ 0 ρ 67 0 → pn_W P L σ ρ θ →
    ∃ n2 σ2 ρ2, pn_qc σ σ2 ∧ pn_qr ρ ρ2 ∧ (∀ (Q : Int32 → sx_M → Prop), Q n2 σ2 → ∃ f, wp_St_reached_b4 Q f n (nI a) σ) ∧ ∀ (Q : Int32 → sx_M → sx_L → Prop), Q n2 ρ2 θ → ∃ f, wp_Mo_reached_b4 Q f n (nI a) ρ θ
  | 0, a, n, σ, ρ, hd, hP, hN, hW => by
    have h7 := hP.1.1
    refine ⟨n, σ, ρ, pn_qc.rf, pn_qr.rf hW.2.2.2.1.2.2, fun Q h => ⟨1, ?_⟩, fun Q h => ⟨1, ?_⟩⟩
    · rw [wp_St_reached_b4, hP.2.1.1, if_pos (nI_le (by omega) (by omega))]; exact h
    · rw [wp_Mo_reached_b4, hP.rP, if_pos (nI_le (by omega) (by omega))]; exact ⟨hP.live.1, h⟩
  | c + 1, a, n, σ, ρ, hd, hP, hN, hW => by
    have h7 := hP.1.1
    have nC : ¬ nI P ≤ nI a := nI_ge (by omega) (by omega)
    obtain ⟨n1, σ1, ρ1, qc, qr, u1, u2⟩ := S_reIn (a := a) P 0 n σ ρ (by omega) hP hN hW
    obtain ⟨n2, σ2, ρ2, q1, q2, w1, w2⟩ := S_reOut c (a + 1) n1 σ1 ρ1 (by omega) (hP.look qc qr) (hN.look qc qr) (hW.look qc qr)
    refine ⟨n2, σ2, ρ2, qc.tr q1, qr.tr q2, fun Q h => ?_, fun Q h => ?_⟩
    · obtain ⟨f, hf⟩ := w1 Q h
      refine ⟨f + 1, ?_⟩
      rw [wp_St_reached_b4, hP.2.1.1, if_neg nC]
      exact u1 _ Q (by rw [nI_1]; exact hf)
    · obtain ⟨f, hf⟩ := w2 Q h
      refine ⟨f + 1, ?_⟩
      rw [wp_Mo_reached_b4, hP.rP, if_neg nC]
      exact ⟨hP.live.1, u2 _ Q (by rw [nI_1]; exact hf)⟩
/-- promise 31 -/
theorem M_reached (h : pn_I σ ρ θ) : pn_ok (wp_St_reached σ) (wp_Mo_reached ρ θ) := by
  obtain ⟨P, L, v, m, hP, hN, hA, hW⟩ := id h
  obtain ⟨n2, σ2, ρ2, q1, q2, w1, w2⟩ := S_reOut P 0 0 σ ρ (by omega) hP hN hW
  exact ⟨n2, σ2, ρ2, θ, h.look q1 q2, fun Q hQ => w1 Q hQ, fun Q hQ => w2 Q hQ⟩
/-- the timers of those against the ranks -/
theorem C_sendLoop {Q : Int32 → sx_M → Prop} {y : Int32} : ∀ (l : List Nat) (i : Nat) (σ σ2 : sx_M), i + l.length ≤ 2 → σ 34 0 0 4 = nI (i + l.length) → (∀ j, j < l.length → σ 36 0 0 (i + j) = nI (l.getD j 0)) → jo_B l σ σ2 → (∃ f, wp_St_send_b26 Q f y (nI (i + l.length)) σ2) → ∃ f, wp_St_send_b26 Q f y (nI i) σ
  | [], i, σ, σ2, hl, h4, h36, hB, h => by
    have e : σ2 = σ := hB
    rw [e] at h
    exact h
  | q :: l, i, σ, σ2, hl, h4, h36, hB, h => by
    obtain ⟨σ1, B1, f1, w1⟩ := hB
    have hl' : i + (l.length + 1) ≤ 2 := hl
    have e36 : σ 36 0 0 i = nI q := by have := h36 0 (Nat.zero_lt_succ _); rw [Nat.add_zero] at this; exact this
    obtain ⟨f, hf⟩ := C_sendLoop l (i + 1) σ1 σ2 (by omega) (by rw [f1.1 34 0 0 (by omega), h4]; show nI (i + (l.length + 1)) = _; congr 1; omega) (fun j hj => by rw [f1.1 36 0 0 (by omega), show i + 1 + j = i + (j + 1) by omega, h36 (j + 1) (Nat.succ_lt_succ hj)]; rfl) B1 (by rw [show i + 1 + l.length = i + (q :: l).length by show _ = i + (l.length + 1); omega]; exact h)
    refine ⟨f + 1, ?_⟩
    rw [wp_St_send_b26, h4, if_neg (nI_ge (by show i < i + (l.length + 1); omega) (by show i + (l.length + 1) < 2 ^ 31; omega)), nI_clamp (n := i) (by omega), e36]
    refine ⟨vp_in_nI (by omega) (by decide), w1 _ ?_⟩
    rw [nI_1]; exact hf
/-- promise 11 -/
theorem M_send (h : pn_I σ ρ θ) (x y : Int32) : pn_ok (wp_St_send x y σ) (wp_Mo_send x y ρ θ) := by
  obtain ⟨P, L, v, m, hP, hN, hA, hW⟩ := id h
  have h7 := hP.1.1
  rcases S_can (θ := θ) hP hN x y with ⟨c1, c2⟩ | ⟨s, d, hs, hd, rfl, rfl, c1, c2⟩
  · refine ⟨-1, σ, ρ, θ, h, fun Q hQ => ?_, fun Q hQ => ?_⟩
    · unfold wp_St_send
      refine c1 _ ?_
      rw [if_pos rfl]; exact hQ
    · unfold wp_Mo_send
      refine c2 _ ?_
      rw [if_pos rfl]; exact hQ
  · obtain ⟨σ1, ρ1, T1, A1, W1, -, -, wC1, wR1⟩ := S_mark hP hN hA hW
    obtain ⟨σ2, R2, wC2⟩ := C_go hd hs T1.2.1 T1.o3 T1.o29
    obtain ⟨l1, l2, l3, l4⟩ := jo_n_v h7 T1.o3 T1.o29 hd 20 s s 0 0 hs hs (by decide)
    obtain ⟨F2, r5, r2, r4, r6, -, r35, -, r36⟩ := R2
    have nn := jo_n_c F2.q d 20 s s 0 0
    have T2 : pn_T P L v m 0 σ2 ρ1 := ⟨T1.1, F2.pP T1.2.1, T1.2.2.1.mv (fun k p _ _ => F2 k 0 p (by omega)) rfl, by rw [F2 31 0 0 (by decide)]; exact T1.2.2.2⟩
    have A2 : pn_A P σ2 0 := A1.mv (fun k p _ _ => F2 k 0 p (by omega)) (fun k n p hk => F2 k n p (by omega))
    obtain ⟨σ3, ρ3, b1, b2, b3, b4, b5, b6⟩ := S_sends (θ := θ) hd hs T2
    rw [nn] at b1 b4 b5 b6
    generalize er : jo_n σ1 d 20 s s 0 0 = r at *
    rw [Nat.zero_add] at l2 r4
    have A3 : pn_A P σ3 0 := A2.j b2 b3
    obtain ⟨σ4, e4⟩ : ∃ z, z = if r.1 = 5 then sx_u σ3 29 0 r.2.2.2 d (-2) else σ3 := ⟨_, rfl⟩
    rw [← e4] at b4
    have o4 : ∀ k n p, ¬ (k = 29 ∧ n = 0) → σ4 k n p = σ3 k n p := fun k n p hk => by
      rw [e4]; split
      · rw [sx_u_row _ _ _ _ _ _ (by omega)]
      · rfl
    have A4 : pn_A P σ4 0 := by
      intro p p0 pP pX pon pr
      rw [o4 27 0 p (by omega)] at pon pr
      exact pn_zz_c (fun k => pn_of_c (fun k n p hk => o4 k n p (by omega)) (fun q p' hq => o4 q 0 p' (by omega)) (fun p' => by rw [o4 27 0 p' (by omega)]) p k) (fun j _ _ => by rw [o4 27 0 p (by omega)]) (fun j => by rw [o4 14 0 0 (by omega)]) (A3 p p0 pP pX pon pr)
    have W2 : pn_W P L σ2 ρ1 θ := W1.look F2.qc (pn_qr.rf W1.2.2.2.1.2.2)
    have W2' : pn_W P L σ2 ρ3 θ := W2.look pn_qc.rf (b5.1.qr W1.2.2.2.1.2.2)
    have W4 : pn_W P L σ4 ρ3 θ := W2'.mvF (fun k n p hk => by rw [o4 k n p (by omega)]; exact b2.1 k n p (by omega)) pn_G.rf
    obtain ⟨ρ4, I4, -, -, wR4⟩ := R_keepsRow b4 A4 W4
    refine ⟨r.1, σ4, ρ4, θ, I4, fun Q hQ => ?_, fun Q hQ => ?_⟩
    · unfold wp_St_send
      refine c1 _ ?_
      rw [if_neg (by decide)]
      refine wC1 _ (wC2 _ ?_)
      have j34 : σ3 34 0 0 = σ2 34 0 0 := b2.1 34 0 0 (by omega)
      refine C_sendLoop r.2.2.1 0 σ2 σ3 (by omega) (by rw [Nat.zero_add]; exact r4) r36 b1 ⟨1, ?_⟩
      rw [wp_St_send_b26, j34, r4, r5, r6, Nat.zero_add, if_pos (nI_le (Nat.le_refl _) (by omega)), nI_clamp (n := r.2.2.2) (by omega), nI_clamp (n := d) (by omega)]
      unfold wp_St_send_b92
      by_cases c5 : r.1 = 5
      · rw [if_pos c5]
        rw [if_pos c5] at e4
        refine ⟨vp_in_nI (by omega) (by decide), vp_in_nI (by omega) (by decide), ?_⟩
        intro _ q; rw [← e4] at q; subst q
        rw [o4 34 0 0 (by omega), j34, r5]; exact hQ
      · rw [if_neg c5]
        rw [if_neg c5] at e4
        rw [j34, r5, ← e4]; exact hQ
    · unfold wp_Mo_send
      refine c2 _ ?_
      rw [if_neg (by decide)]
      exact wR1 _ (b6 _ (wR4 _ hQ))
end DATA
