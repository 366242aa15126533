section READB
variable {P L t nt N v m p l : Nat} {σ σ2 ρ ρ2 : sx_M} {θ θ2 : sx_L} {B : Nat → Int32}
/-- slots hold nothing -/
theorem C_slots0 {Q : Int32 → sx_M → Prop} (h : wp_St_read_b74 Q (sx_u (sx_u (sx_u σ 39 0 0 0 0) 39 0 0 1 0) 39 0 0 2 0)) : ∃ f, wp_St_read_b56 Q f 0 σ := by
  have nar : vp_nar .boolean 0 = 0 := by decide
  refine ⟨4, ?_⟩
  rw [wp_St_read_b56, if_neg (by decide), nar]
  refine ⟨in_I (n := 0) rfl (by decide) (by decide), ?_⟩
  intro _ q; subst q
  rw [wp_St_read_b56, if_neg (by decide), nar]
  refine ⟨in_I (n := 1) rfl (by decide) (by decide), ?_⟩
  intro _ q; subst q
  rw [wp_St_read_b56, if_neg (by decide), nar]
  refine ⟨in_I (n := 2) rfl (by decide) (by decide), ?_⟩
  intro _ q; subst q
  rw [wp_St_read_b56, if_pos (by decide)]
  exact h
theorem R_slots0 {Q : Int32 → sx_M → sx_L → Prop} (h : Q 0 (sx_u (sx_u (sx_u ρ 73 0 0 0 0) 73 0 0 1 0) 73 0 0 2 0) θ) : ∃ f, wp_Mo_read_b180 Q f 0 ρ θ := by
  have nar : vp_nar .boolean 0 = 0 := by decide
  refine ⟨4, ?_⟩
  rw [wp_Mo_read_b180, if_neg (by decide), nar]
  refine ⟨in_I (n := 0) rfl (by decide) (by decide), ?_⟩
  intro _ q; subst q
  rw [wp_Mo_read_b180, if_neg (by decide), nar]
  refine ⟨in_I (n := 1) rfl (by decide) (by decide), ?_⟩
  intro _ q; subst q
  rw [wp_Mo_read_b180, if_neg (by decide), nar]
  refine ⟨in_I (n := 2) rfl (by decide) (by decide), ?_⟩
  intro _ q; subst q
  rw [wp_Mo_read_b180, if_pos (by decide)]
  exact h
/-- promise 4 -/
theorem M_read (h : pn_I σ ρ θ) : pn_ok (wp_St_read σ) (wp_Mo_read ρ θ) := by
  obtain ⟨P, L, u, m, hP, hN, hA, hW⟩ := id h
  obtain ⟨⟨⟨t, t1, t2, t3, t4⟩, t5⟩, hU, hH, ⟨s1, s2, s3⟩, ky⟩ := id hW
  have hu := hP.1.2.2
  obtain ⟨v, ev⟩ : ∃ v, v = 1 - u := ⟨_, rfl⟩
  have hv : v < 2 := by omega
  have euv : ρ 50 0 0 17 = nI (1 - v) := by rw [hP.2.1.2.2.1]; congr 1; omega
  obtain ⟨B, eB⟩ : ∃ B, B = σ 2 0 0 := ⟨_, rfl⟩
  -- the reference: up to the parser
  obtain ⟨ρ1, e1⟩ : ∃ z, z = sx_u ρ 50 0 0 4 (nI t) := ⟨_, rfl⟩
  have o1 : ∀ k n q, ¬ k = 50 → ρ1 k n q = ρ k n q := fun k n q z => by rw [e1, sx_u_row _ _ _ _ _ _ (by omega)]
  have f1 : ∀ j, ¬ j = 4 → ρ1 50 0 0 j = ρ 50 0 0 j := fun j z => by rw [e1, sx_u_at, if_neg (by omega)]
  obtain ⟨ρ2, a1, -, a3, a4⟩ := R_text (θ := θ) t1 t 0 ρ1 (by omega) (by rw [e1, sx_u_at]; simp)
  obtain ⟨ρ3, e3⟩ : ∃ z, z = sx_u ρ2 50 0 0 2 0 := ⟨_, rfl⟩
  have o3 : ∀ k n q, ¬ k = 50 → ρ3 k n q = ρ2 k n q := fun k n q z => by rw [e3, sx_u_row _ _ _ _ _ _ (by omega)]
  have f3 : ∀ j, ¬ (j = 2 ∨ j = 4) → ρ3 50 0 0 j = ρ 50 0 0 j := fun j z => by rw [e3, sx_u_at, if_neg (by omega), a3 50 0 0 (by decide), f1 j (by omega)]
  have R3 : tx_R t B ρ3 := by
    refine ⟨t1, ?_, fun i hi => ?_⟩
    · rw [e3, sx_u_at, if_neg (by omega), a3 50 0 0 (by decide), e1, sx_u_at]; simp
    · rw [o3 52 0 0 (by decide), a1 i (Nat.zero_le _) hi, tx_nar, o1 51 0 0 (by decide), eB, t4 i hi]
  obtain ⟨nt, ρ4, θ4, T4, g4, l4, w4⟩ := R_parts R3 (θ := θ) ky
  obtain ⟨ρ5, e5⟩ : ∃ z, z = sx_u (sx_u (sx_u (sx_u ρ4 50 0 0 11 0) 50 0 0 12 0) 50 0 0 14 0) 50 0 0 18 (nI v) := ⟨_, rfl⟩
  have o5 : ∀ k n q, ¬ k = 50 → ρ5 k n q = ρ4 k n q := fun k n q z => by rw [e5, sx_u_row _ _ _ _ _ _ (by omega), sx_u_row _ _ _ _ _ _ (by omega), sx_u_row _ _ _ _ _ _ (by omega), sx_u_row _ _ _ _ _ _ (by omega)]
  have f5 : ∀ j, ¬ (j = 11 ∨ j = 12 ∨ j = 14 ∨ j = 18) → ρ5 50 0 0 j = ρ4 50 0 0 j := fun j z => by rw [e5, sx_u_at, if_neg (by omega), sx_u_at, if_neg (by omega), sx_u_at, if_neg (by omega), sx_u_at, if_neg (by omega)]
  have v5 : ρ5 50 0 0 11 = 0 ∧ ρ5 50 0 0 12 = 0 ∧ ρ5 50 0 0 14 = 0 ∧ ρ5 50 0 0 18 = nI v := by
    refine ⟨?_, ?_, ?_, ?_⟩
    · rw [e5, sx_u_at, if_neg (by omega), sx_u_at, if_neg (by omega), sx_u_at, if_neg (by omega), sx_u_at]; simp
    · rw [e5, sx_u_at, if_neg (by omega), sx_u_at, if_neg (by omega), sx_u_at]; simp
    · rw [e5, sx_u_at, if_neg (by omega), sx_u_at]; simp
    · rw [e5, sx_u_at]; simp
  obtain ⟨ρ6, b1, b2, b3, b4, b5, b6⟩ := R_plain (ρ := ρ5) (θ := θ4) hv
  have f6 : ∀ j, ¬ (j = 2 ∨ j = 4 ∨ (10 ≤ j ∧ j ≤ 15) ∨ j = 18) → ρ6 50 0 0 j = ρ 50 0 0 j := fun j z => by rw [b5 j, f5 j (by omega), g4.2 j (by omega), f3 j (by omega)]
  have o6 : ∀ k n q, ¬ (k = 50 ∨ (52 ≤ k ∧ k ≤ 55) ∨ (58 ≤ k ∧ k ≤ 66)) → ρ6 k n q = ρ k n q := fun k n q z => by rw [b4.1 k n q (by omega), o5 k n q (by omega), g4.1 k n q (by omega), o3 k n q (by omega), a3 k n q (by omega), o1 k n q (by omega)]
  have p6 : pr_s v ρ ρ6 := pr_s.tr (pr_s.e (fun k z1 z2 => by rw [o5 k 0 0 (by omega), g4.1 k 0 0 (by omega), o3 k 0 0 (by omega), a3 k 0 0 (by omega), o1 k 0 0 (by omega)])) b4.s
  have T6 : tk_T B t nt ρ6 θ4 := by
    obtain ⟨q1, q2, q3, q4, q5⟩ := T4
    refine ⟨q1, q2, fun i hi => (q3 i hi).mv ?_ ?_ ?_ rfl, q4, q5⟩
    · rw [b4.1 53 0 0 (by omega), o5 53 0 0 (by decide)]
    · rw [b4.1 54 0 0 (by omega), o5 54 0 0 (by decide)]
    · rw [b4.1 55 0 0 (by omega), o5 55 0 0 (by decide)]
  have C6 : pr_C B t nt v 0 0 0 ρ6 θ4 := ⟨T6, ⟨by rw [b5 18]; exact v5.2.2.2, hv⟩, ⟨by rw [b5 11]; exact v5.1, T6.1⟩, by rw [b5 12]; exact v5.2.1, ⟨b1.1, by decide⟩, b1.2.1, by decide⟩
  have W6 : ρ6 50 0 0 14 = 0 := by rw [b5 14]; exact v5.2.2.1
  have wRef : ∀ Q : Int32 → sx_M → sx_L → Prop, (∃ f, wp_Mo_read_b78 Q f ρ6 θ4) → wp_Mo_read ρ θ Q := fun Q hQ => by
    unfold wp_Mo_read
    rw [t3]
    intro _ q; rw [← e1] at q; replace q := q.symm; subst q
    refine a4 Q ?_
    unfold pr_rd
    intro _ q; rw [← e3] at q; replace q := q.symm; subst q
    refine w4 _ ?_
    intro σ20 q20
    intro σ21 q21
    intro σ22 q22
    intro σ23 q23
    have e17 : σ22 50 0 0 17 = nI u := by rw [q22, sx_u_at, if_neg (by omega), q21, sx_u_at, if_neg (by omega), q20, sx_u_at, if_neg (by omega), g4.2 17 (by decide), f3 17 (by decide)]; exact hP.2.1.2.2.1
    have e23 : σ23 = ρ5 := by
      rw [q23, e17, show (1 : Int32) - nI u = nI v by rw [ev]; exact pk_sub (a := 1) (by omega), q22, q21, q20, e5]
    rw [e23, v5.2.2.2]
    exact b6 _ hQ
  -- the class: up to the meaning
  have hC : tx_C t σ := ⟨t1, t2⟩
  obtain ⟨σ1, F1, S1, w1⟩ := C_scan hC
  rw [← eB] at S1
  obtain ⟨r, er⟩ : ∃ r, r = sy_ (tx_o B t) 401 0 0 0 0 0 := ⟨_, rfl⟩
  rw [← er] at S1
  have ery : sy_y (tx_o B t) 0 0 (sy_l 0) 0 0 = r := er.symm
  obtain ⟨q1, q2, q3, q4, q5, q6⟩ := S1
  obtain ⟨σ2, e2⟩ : ∃ z, z = sx_u (sx_u σ1 3 0 0 3 (σ1 4 0 0 4)) 3 0 0 4 (σ1 4 0 0 5) := ⟨_, rfl⟩
  have o2 : ∀ k n q, ¬ k = 3 → σ2 k n q = σ1 k n q := fun k n q z => by rw [e2, sx_u_row _ _ _ _ _ _ (by omega), sx_u_row _ _ _ _ _ _ (by omega)]
  have v2 : σ2 3 0 0 3 = nI r.1 ∧ σ2 3 0 0 4 = σ1 4 0 0 5 := by
    refine ⟨?_, ?_⟩
    · rw [e2, sx_u_at, if_neg (by omega), sx_u_at, q1]; simp
    · rw [e2, sx_u_at]; simp
  obtain ⟨σ3, c1, c2, c3, c4, c5⟩ := C_clear (σ := σ2)
  have wCls : ∀ Q : Int32 → sx_M → Prop, (∃ f, wp_Re_take_b39 (fun σ4 => ∀ σ5 : sx_M, σ5 = sx_u σ4 1 0 0 1 0 → (if σ5 3 0 0 3 = 0 then (wp_Pl_copyFrom 0 1 σ5 (fun σ7 => wp_En_beginAll 0 σ7 (fun σ8 => wp_St_forgetPast σ8 (fun σ9 => ∃ f56, wp_St_read_b56 Q f56 0 σ9)))) else (wp_St_read_b74 Q σ5))) f 0 σ3) → wp_St_read σ Q := fun Q hQ => by
    unfold wp_St_read wp_Re_take
    refine w1 _ ?_
    intro σa qa
    intro σb qb
    have eb : σb = σ2 := by rw [qb, qa, e2, sx_u_row _ _ _ _ _ _ (show ¬ (4 = 3 ∧ 0 = 0 ∧ 0 = 0) by decide)]
    rw [eb]
    exact c5 _ hQ
  have fr3 : ∀ k n q, ¬ (k = 3 ∨ (4 ≤ k ∧ k ≤ 7) ∨ ((k = 8 ∨ k = 13 ∨ k = 14) ∧ n = 1)) → σ3 k n q = σ k n q := fun k n q z => by rw [c4 k n q (by omega), o2 k n q (by omega), F1 k n q (by omega)]
  -- a fault: all stays
  have bad : ∀ (σ4 ρ7 : sx_M) (θ7 : sx_L) (k x : Nat), cc_f σ3 σ4 → pr_g v ρ6 ρ7 → pr_l v θ4 θ7 → 1 ≤ k → k ≤ 5 → σ4 3 0 0 3 = nI k → σ4 3 0 0 4 = nI x → (∀ Q : sx_M → Prop, Q σ4 → ∃ f, wp_Re_take_b39 Q f 0 σ3) → (∀ Q : Int32 → sx_M → sx_L → Prop, Q (nI k) (sx_u ρ7 50 0 0 16 (nI x)) θ7 → ∃ f, wp_Mo_read_b78 Q f ρ6 θ4) → pn_ok (wp_St_read σ) (wp_Mo_read ρ θ) := fun σ4 ρ7 θ7 k x hf hg hl k1 k2 v3 v4 wC wR => by
    refine ⟨nI k, sx_u σ4 1 0 0 1 0, sx_u ρ7 50 0 0 16 (nI x), θ7, ?_, fun Q hQ => wCls Q (wC _ ?_), fun Q hQ => wRef Q (wR Q hQ)⟩
    · refine h.rd (v := v) (fun k n q z => ?_) (fun k n q z => ?_) (fun j z => ?_) ?_ euv hv ?_ ?_ ?_ ?_
      · rw [sx_u_row _ _ _ _ _ _ (by omega), hf k n q (by omega), fr3 k n q (by omega)]
      · rw [sx_u_row _ _ _ _ _ _ (by omega), hg.1 k n q (by omega), o6 k n q z]
      · rw [sx_u_at, if_neg (by omega), hg.2.1 j (by omega), f6 j (by omega)]
      · exact (p6.tr hg.s).tr (pr_s.e (fun k z1 z2 => by rw [sx_u_row _ _ _ _ _ _ (by omega)]))
      · rw [sx_u_at]; simp
      · rw [sx_u_at, if_neg (by omega), hg.2.1 2 (by decide), b5 2, f5 2 (by decide), g4.2 2 (by decide), e3, sx_u_at]; simp
      · rw [sx_u_row _ _ _ _ _ _ (by decide), v4, sx_u_at]; simp
      · rw [hl.1 57 (by decide), l4 57 (by decide)]
    · intro σ5 q
      subst q
      have r3 : sx_u σ4 1 0 0 1 0 3 0 0 3 = nI k := by rw [sx_u_row _ _ _ _ _ _ (by decide)]; exact v3
      unfold wp_St_read_b74
      rw [r3, if_neg (nI_ne0 (by omega) (by omega))]; exact hQ
  by_cases c0 : r.1 = 0
  case neg =>
    obtain ⟨ρ7, θ7, d1, d2, d3, d4, d5, -, d7⟩ := R_alone t1 401 0 0 0 0 ρ6 θ4 rfl C6
    rw [ery] at d3 d4 d5
    refine bad σ3 ρ7 θ7 r.1 (tx_j B t r.2) cc_f.rf d1 d2 (by omega) (by omega) ?_ ?_ (fun Q hQ => ⟨1, ?_⟩) (fun Q hQ => d7 Q ?_)
    · rw [c4 3 0 0 (by omega)]; exact v2.1
    · rw [c4 3 0 0 (by omega), v2.2]; exact q5 c0
    · rw [wp_Re_take_b39]
      unfold wp_Re_take_b74
      rw [show σ3 3 0 0 3 = nI r.1 by rw [c4 3 0 0 (by omega)]; exact v2.1, if_neg (nI_ne0 (n := r.1) (by omega) (by omega))]
      by_cases z : σ3 4 0 0 3 ≤ 0
      · rw [if_pos z]; exact hQ
      · rw [if_neg z]; exact hQ
    · unfold wp_Mo_read_b100 wp_Mo_read_b130
      rw [d3, if_neg (nI_nle (by omega) (by omega)), d5 c0]
      intro _ q; subst q
      rw [show sx_u ρ7 50 0 0 16 (nI (tx_j B t r.2)) 50 0 0 12 = nI r.1 by rw [sx_u_at, if_neg (by omega)]; exact d3, if_neg (nI_nle (by omega) (by omega))]
      exact hQ
  obtain ⟨x5, x3, xT, x17⟩ := q4 c0
  obtain ⟨N, eN⟩ : ∃ N, N = r.2 := ⟨_, rfl⟩
  rw [← eN] at x3 xT x17 q3 q6
  have cc3 : cc_ B t N σ3 := by
    refine ⟨⟨t1, by rw [fr3 1 0 0 (by omega)]; exact t2⟩, by rw [fr3 2 0 0 (by omega), eB], q3, by rw [c4 4 0 0 (by omega), o2 4 0 0 (by decide)]; exact x3, fun i hi => ?_, q6⟩
    unfold tk_C
    rw [c4 5 0 0 (by omega), o2 5 0 0 (by decide), c4 6 0 0 (by omega), o2 6 0 0 (by decide), c4 7 0 0 (by omega), o2 7 0 0 (by decide)]
    exact xT i hi
  have D3 : dr_ B t N v 0 0 σ3 ρ6 θ4 := dr_.o hv c1 c2 c3 b1.2.2 b2 b3
  have y3 : sy_y (tx_o B t) 0 0 (sy_l 0) 0 0 = (0, N) := by rw [ery, eN, ← c0]
  obtain ⟨σ4, ρ7, θ7, d1, d2, d3, d4, d5, d6, d7⟩ := S_take 401 0 0 0 0 σ3 ρ6 θ4 rfl cc3 C6 D3 (by rw [c4 3 0 0 (by omega), v2.1, c0]; rfl) (by rw [c4 3 0 0 (by omega), v2.2]; exact x5) W6 y3
  rcases d5 with ⟨k1, k2, k3, P2, L2, k4, k5, k6⟩ | ⟨k, x, k1, k2, k3, k4, k5⟩
  case inr =>
    refine bad σ4 ρ7 θ7 k x d1 d2 d3 (by omega) k2 k3 k4 d6 (fun Q hQ => d7 Q ?_)
    unfold wp_Mo_read_b100 wp_Mo_read_b130
    rw [d4, if_pos (by decide), k5.1, if_neg (nI_nle (by omega) (by omega)), k5.2]
    intro _ q; subst q
    rw [show sx_u ρ7 50 0 0 16 (nI x) 50 0 0 12 = 0 by rw [sx_u_at, if_neg (by omega)]; exact d4, if_pos (by decide), show sx_u ρ7 50 0 0 16 (nI x) 50 0 0 14 = nI k by rw [sx_u_at, if_neg (by omega)]; exact k5.1, if_neg (nI_nle (by omega) (by omega))]
    exact hQ
  -- the text is taken
  obtain ⟨σ5, e5'⟩ : ∃ z, z = sx_u σ4 1 0 0 1 0 := ⟨_, rfl⟩
  have o5' : ∀ k n q, ¬ k = 1 → σ5 k n q = σ4 k n q := fun k n q z => by rw [e5', sx_u_row _ _ _ _ _ _ (by omega)]
  have D5 : dr_ B t N v P2 L2 σ5 ρ7 θ7 := k4.mv (fun k n q z1 z2 => o5' k n q (by omega)) (fun _ _ _ => rfl) rfl
  obtain ⟨σ6, p1, p2, p3, p4, p5, p6'⟩ := C_plan D5.2.2.1.1
  obtain ⟨ρ8, e8⟩ : ∃ z, z = sx_u ρ7 50 0 0 16 (-1) := ⟨_, rfl⟩
  obtain ⟨ρ9, e9⟩ : ∃ z, z = sx_u ρ8 50 0 0 17 (nI v) := ⟨_, rfl⟩
  have o9 : ∀ k n q, ¬ k = 50 → ρ9 k n q = ρ7 k n q := fun k n q z => by rw [e9, sx_u_row _ _ _ _ _ _ (by omega), e8, sx_u_row _ _ _ _ _ _ (by omega)]
  have f9 : ∀ j, ¬ (j = 16 ∨ j = 17) → ρ9 50 0 0 j = ρ7 50 0 0 j := fun j z => by rw [e9, sx_u_at, if_neg (by omega), e8, sx_u_at, if_neg (by omega)]
  have g7 : ∀ j, ¬ (j = 2 ∨ j = 4 ∨ (10 ≤ j ∧ j ≤ 15) ∨ j = 18) → ρ7 50 0 0 j = ρ 50 0 0 j := fun j z => by rw [d2.2.1 j (by omega), f6 j z]
  have P6 : pn_P P2 L2 v σ6 ρ9 := D5.pP p1 p2 p3 p4 (by rw [e9, sx_u_at]; simp) (fun k z1 z2 => o9 k 0 0 (by omega)) k5 k6
  have c6 : ∀ k n q, 16 ≤ k → σ6 k n q = σ k n q := fun k n q z => by rw [p5 k n q (by omega), o5' k n q (by omega), d1 k n q (by omega), fr3 k n q (by omega)]
  obtain ⟨σ7, ρ10, T7, A7, y1, y2, y3', y4, y5, y6⟩ := S_begins (θ := θ7) P6 (by rw [c6 31 0 0 (by decide)]; exact s1)
  obtain ⟨hm0, hmr, hmc⟩ := T7.2.2.1.2.2.1
  obtain ⟨ρ11, z1, z2, z3, z4⟩ := R_row_now (ρ := ρ10) (θ := θ7) (bf := 0) (bt := 0) (m := 0) rfl rfl hm0 hmr (by decide) (by decide)
  obtain ⟨ρ12, e12⟩ : ∃ z, z = sx_u ρ11 50 0 0 37 0 := ⟨_, rfl⟩
  obtain ⟨ρ13, e13⟩ : ∃ z, z = sx_u (sx_u (sx_u ρ12 73 0 0 0 0) 73 0 0 1 0) 73 0 0 2 0 := ⟨_, rfl⟩
  obtain ⟨σ8, e8'⟩ : ∃ z, z = sx_u (sx_u σ7 0 0 0 10 0) 0 0 0 11 0 := ⟨_, rfl⟩
  obtain ⟨σ9, e9'⟩ : ∃ z, z = sx_u (sx_u (sx_u σ8 39 0 0 0 0) 39 0 0 1 0) 39 0 0 2 0 := ⟨_, rfl⟩
  have o13 : ∀ k n q, ¬ (k = 73 ∨ k = 50) → ρ13 k n q = ρ11 k n q := fun k n q z => by rw [e13, sx_u_row _ _ _ _ _ _ (by omega), sx_u_row _ _ _ _ _ _ (by omega), sx_u_row _ _ _ _ _ _ (by omega), e12, sx_u_row _ _ _ _ _ _ (by omega)]
  have f13 : ∀ j, ¬ j = 37 → ρ13 50 0 0 j = ρ11 50 0 0 j := fun j z => by rw [e13, sx_u_row _ _ _ _ _ _ (by decide), sx_u_row _ _ _ _ _ _ (by decide), sx_u_row _ _ _ _ _ _ (by decide), e12, sx_u_at, if_neg (by omega)]
  have v37 : ρ13 50 0 0 37 = 0 := by rw [e13, sx_u_row _ _ _ _ _ _ (by decide), sx_u_row _ _ _ _ _ _ (by decide), sx_u_row _ _ _ _ _ _ (by decide), e12, sx_u_at]; simp
  have f13' : ∀ j, ¬ (j = 37 ∨ j = 31) → ρ13 50 0 0 j = ρ9 50 0 0 j := fun j z => by rw [f13 j (by omega), z1 50 0 0 (by decide), y3' j (by omega)]
  have v73 : ∀ s, s < 3 → ρ13 73 0 0 s = 0 := fun s hs => by
    have cs : s = 0 ∨ s = 1 ∨ s = 2 := by omega
    rw [e13]; simp only [sx_u_at]
    rcases cs with rfl | rfl | rfl <;> simp
  have o9' : ∀ k n q, ¬ (k = 39 ∨ k = 0) → σ9 k n q = σ7 k n q := fun k n q z => by rw [e9', sx_u_row _ _ _ _ _ _ (by omega), sx_u_row _ _ _ _ _ _ (by omega), sx_u_row _ _ _ _ _ _ (by omega), e8', sx_u_row _ _ _ _ _ _ (by omega), sx_u_row _ _ _ _ _ _ (by omega)]
  have v39 : ∀ s, s < 3 → σ9 39 0 0 s = 0 := fun s hs => by
    have cs : s = 0 ∨ s = 1 ∨ s = 2 := by omega
    rw [e9']; simp only [sx_u_at]
    rcases cs with rfl | rfl | rfl <;> simp
  have v0 : σ9 0 0 0 10 = 0 ∧ σ9 0 0 0 11 = 0 := by
    have : σ9 0 0 0 = σ8 0 0 0 := by rw [e9', sx_u_row _ _ _ _ _ _ (by decide), sx_u_row _ _ _ _ _ _ (by decide), sx_u_row _ _ _ _ _ _ (by decide)]
    rw [this, e8']
    exact ⟨by rw [sx_u_at, if_neg (by omega), sx_u_at]; simp, by rw [sx_u_at]; simp⟩
  have w9 : ∀ k n q, ¬ (k = 39 ∨ k = 0) → ¬ ((16 ≤ k ∧ k ≤ 30) ∧ n = 0) → σ9 k n q = σ6 k n q := fun k n q q1 q2 => by rw [o9' k n q q1, y1 k n q q2]
  have w13 : ∀ k n q, ¬ (k = 73 ∨ k = 50 ∨ k = 67 ∨ k = 68) → ρ13 k n q = ρ9 k n q := fun k n q z => by rw [o13 k n q (by omega), z1 k n q (by omega), y2 k n q (by omega)]
  obtain ⟨u0, pe, er', a1', a2', a3', a4', a5', a6', a7', -⟩ := hU
  have I9 : pn_I σ9 ρ13 θ7 := by
    refine ⟨P2, L2, v, 0, ?_, ?_, ?_, ⟨⟨⟨0, by decide, ?_, ?_, fun i hi => absurd hi (Nat.not_lt_zero i)⟩, ?_⟩, ⟨0, 0, er', by decide, by decide, a3', v0.2, v37, v0.1, ?_, fun j hj => absurd hj (Nat.not_lt_zero j)⟩, fun s hs => ⟨by rw [v39 s hs]; exact Or.inl rfl, by rw [v39 s hs, v73 s hs], fun z => by rw [v39 s hs] at z; exact absurd z (by decide)⟩, ⟨?_, ?_, ?_⟩, fun i hi => ?_⟩⟩
    · exact P6.mvA (fun k n q h1 h2 => w9 k n q (by omega) (by omega)) (by rw [f13' 17 (by decide)]) (fun k h1 h2 => w13 k 0 0 (by omega))
    · have N7 : pn_N P2 L2 0 σ7 0 ρ11 67 0 := T7.2.2.1.cR (fun j hj => z2 j hj)
      exact N7.mv (fun k q h1 h2 => o9' k 0 q (by omega)) (o13 67 0 0 (by omega))
    · exact A7.mw8 (fun k q h1 h2 => o9' k 0 q (by omega)) (fun k n q h1 h2 => o9' k n q (by omega))
    · rw [w9 1 0 0 (by omega) (by omega), p5 1 0 0 (by omega), e5', sx_u_at]; simp; rfl
    · rw [f13' 2 (by decide), f9 2 (by decide), d2.2.1 2 (by decide), b5 2, f5 2 (by decide), g4.2 2 (by decide), e3, sx_u_at]; simp; rfl
    · rw [w9 3 0 0 (by omega) (by omega), p5 3 0 0 (by omega), o5' 3 0 0 (by decide), k2, f13' 16 (by decide), e9, sx_u_at, if_neg (by omega), e8, sx_u_at]; simp
    · rw [f13' 36 (by decide), f9 36 (by decide), g7 36 (by decide)]; exact a7'
    · rw [w9 31 0 0 (by omega) (by omega), c6 31 0 0 (by decide)]; exact s1
    · rw [w9 31 1 0 (by omega) (by omega), c6 31 1 0 (by decide)]; exact s2
    · rw [f13 31 (by decide), z1 50 0 0 (by decide)]; exact y4
    · rw [d3.1 57 (by decide), l4 57 (by decide)]; exact ky i hi
  refine ⟨0, σ9, ρ13, θ7, I9, fun Q hQ => wCls Q (d6 _ ?_), fun Q hQ => wRef Q (d7 Q ?_)⟩
  · intro _ q; rw [← e5'] at q; replace q := q.symm; subst q
    rw [show σ5 3 0 0 3 = 0 by rw [o5' 3 0 0 (by decide)]; exact k1, if_pos rfl]
    refine p6' _ (y5 _ ?_)
    unfold wp_St_forgetPast
    intro _ q; subst q
    intro _ q; rw [← e8'] at q; replace q := q.symm; subst q
    refine C_slots0 ?_
    rw [← e9']
    unfold wp_St_read_b74
    rw [w9 3 0 0 (by omega) (by omega), p5 3 0 0 (by omega), o5' 3 0 0 (by decide), k1]; exact hQ
  · unfold wp_Mo_read_b100 wp_Mo_read_b130
    rw [d4, if_pos (by decide), k3, if_pos (by decide)]
    intro _ q; rw [← e8] at q; replace q := q.symm; subst q
    have g12 : ρ8 50 0 0 12 = 0 := by rw [e8, sx_u_at, if_neg (by omega)]; exact d4
    have g14 : ρ8 50 0 0 14 = 0 := by rw [e8, sx_u_at, if_neg (by omega)]; exact k3
    have g18 : ρ8 50 0 0 18 = nI v := by rw [e8, sx_u_at, if_neg (by omega), d2.2.1 18 (by decide), b5 18]; exact v5.2.2.2
    rw [g12, if_pos (by decide), g14, if_pos (by decide), g18]
    intro _ q; rw [← e9] at q; replace q := q.symm; subst q
    refine y6 _ ?_
    unfold wp_Mo_keepsRow
    refine z4 _ ?_
    intro _ q; rw [← e12] at q; replace q := q.symm; subst q
    refine R_slots0 ?_
    rw [← e13]; exact hQ
end READB
