section WAYSC
variable {P L v m n e : Nat} {σ σ2 ρ ρ2 : sx_M} {θ : sx_L}
/-- is one on? -/
theorem C_isOn1 (hP : pn_P P L v σ ρ) {j : Nat} (hj : j < P) {Q : Int32 → sx_M → Prop} (h : Q (if σ 27 0 j 0 = 0 then 0 else 1) σ) : wp_St_isOn (nI j) σ Q := by
  have h7 := hP.1.1
  unfold wp_St_isOn wp_St_isOn_b30 wp_St_isOn_b31
  refine C_isPost1 hP rfl hj ?_
  rw [if_neg (by decide), nI_clamp (n := j) (by omega)]
  refine ⟨vp_in_nI (by omega) (by decide), ?_⟩
  by_cases c : σ 27 0 j 0 = 0
  · rw [if_pos c] at h ⊢; exact ⟨Or.inl rfl, h⟩
  · rw [if_neg c] at h ⊢; exact ⟨Or.inr rfl, h⟩
theorem C_isOn0 (hP : pn_P P L v σ ρ) {x : Int32} (hx : x < 0 ∨ nI P ≤ x) {Q : Int32 → sx_M → Prop} (h : Q 0 σ) : wp_St_isOn x σ Q := by
  unfold wp_St_isOn wp_St_isOn_b30 wp_St_isOn_b31
  refine C_isPost0 hP hx ?_
  rw [if_pos rfl]; exact ⟨Or.inl rfl, h⟩
theorem R_isOn1 (hP : pn_P P L v σ ρ) (hN : pn_N P L m σ 0 ρ 67 0) {j : Nat} (hj : j < P) {Q : Int32 → sx_M → sx_L → Prop} (h : Q (if σ 27 0 j 0 = 0 then 0 else 1) ρ θ) : wp_Mo_isNowOn (nI j) ρ θ Q := by
  unfold wp_Mo_isNowOn wp_Mo_isNowOn_b27 wp_Mo_isNowOn_b28
  refine R_isPost1 hP rfl hj ?_
  rw [if_neg (by decide), show (9 : Int32).toNatClampNeg = 9 from rfl, R_onb hN hj]
  refine ⟨in_I (n := 9) rfl (by decide) (by decide), ?_⟩
  rcases hN.2.2.2.2.1.1 j hj with z | z
  · rw [if_pos z] at h; rw [if_neg (by rw [z]; decide)]; exact ⟨Or.inl rfl, h⟩
  · rw [if_neg (by rw [z]; decide)] at h; rw [if_pos z]; exact ⟨Or.inr rfl, h⟩
theorem R_isOn0 (hP : pn_P P L v σ ρ) {x : Int32} (hx : x < 0 ∨ nI P ≤ x) {Q : Int32 → sx_M → sx_L → Prop} (h : Q 0 ρ θ) : wp_Mo_isNowOn x ρ θ Q := by
  unfold wp_Mo_isNowOn wp_Mo_isNowOn_b27 wp_Mo_isNowOn_b28
  refine R_isPost0 hP hx ?_
  rw [if_pos rfl]; exact ⟨Or.inl rfl, h⟩
/-- promise 29 -/
theorem M_spare (h : pn_I σ ρ θ) (x : Int32) : pn_ok (wp_St_spare x σ) (wp_Mo_spare x ρ θ) := by
  obtain ⟨P, L, v, m, hP, hN, hA, hW⟩ := id h
  have h7 := hP.1.1
  have h16 := hP.1.2.1
  have hv := hP.1.2.2
  have none_ : (x < 0 ∨ nI P ≤ x) → pn_ok (wp_St_spare x σ) (wp_Mo_spare x ρ θ) := fun c => by
    refine ⟨-1, σ, ρ, θ, h, fun Q hQ => ?_, fun Q hQ => ?_⟩
    · unfold wp_St_spare wp_St_spare_b29
      refine C_isOn0 hP c ?_
      rw [if_pos rfl]; exact hQ
    · unfold wp_Mo_spare wp_Mo_spare_b21
      refine R_isOn0 hP c ?_
      rw [if_pos rfl]; exact hQ
  rcases pk_ix x (n := P) (by omega) with c | c | ⟨j, hj, rfl⟩
  · exact none_ (Or.inl c)
  · exact none_ (Or.inr c)
  · have cj : (nI j).toNatClampNeg = j := nI_clamp (by omega)
    have ij : vp_in (nI j) 7 := vp_in_nI (by omega) (by decide)
    have po := hN.par j hj
    have e3 : ρ 67 0 0 (26 + 10 * j + 2) = σ 27 0 j 3 := hN.now hj (w := 2) (by decide)
    by_cases c1 : σ 27 0 j 0 = 0
    · refine ⟨-1, σ, ρ, θ, h, fun Q hQ => ?_, fun Q hQ => ?_⟩
      · unfold wp_St_spare wp_St_spare_b29
        refine C_isOn1 hP hj ?_
        rw [if_pos c1, if_pos rfl]; exact hQ
      · unfold wp_Mo_spare wp_Mo_spare_b21
        refine R_isOn1 hP hN hj ?_
        rw [if_pos c1, if_pos rfl]; exact hQ
    by_cases c2 : nI j = 0
    · refine ⟨-1, σ, ρ, θ, h, fun Q hQ => ?_, fun Q hQ => ?_⟩
      · unfold wp_St_spare wp_St_spare_b29
        refine C_isOn1 hP hj ?_
        rw [if_neg c1, if_neg (by decide), if_pos c2]; exact hQ
      · unfold wp_Mo_spare wp_Mo_spare_b21
        refine R_isOn1 hP hN hj ?_
        rw [if_neg c1, if_neg (by decide), if_pos c2]; exact hQ
    by_cases c3 : σ 27 0 j 3 = -2
    · refine ⟨-1, σ, ρ, θ, h, fun Q hQ => ?_, fun Q hQ => ?_⟩
      · unfold wp_St_spare wp_St_spare_b29
        refine C_isOn1 hP hj ?_
        rw [if_neg c1, if_neg (by decide), if_neg c2, cj, if_pos c3]; exact ⟨ij, hQ⟩
      · unfold wp_Mo_spare wp_Mo_spare_b21
        refine R_isOn1 hP hN hj ?_
        rw [if_neg c1, if_neg (by decide), if_neg c2]
        refine R_nowOf (i := 2) rfl rfl (by omega) (by decide) ?_
        rw [e3, if_neg (fun z => absurd ((po.neg h7).mpr c3) (Int32.not_lt.mpr z))]; exact hQ
    obtain ⟨q, hq, eq⟩ := po.resolve_left c3
    obtain ⟨ρ1, T1, q1, w1⟩ := R_copies hP hN hW
    have cl := hP.2.2.2.2.2.1
    have wo : ∀ k, k < P → ¬ pn_nb σ 0 j k = 0 → (σ 13 0 j k = σ 13 0 j q ↔ nI k = σ 27 0 j 3) := by
      intro k hk hnb
      rw [eq]
      refine ⟨fun z => ?_, fun z => by rw [(nI_eq (by omega) (by omega)).mp z]⟩
      obtain ⟨l, hl, el, -⟩ := pn_nb_l hP hj hk hnb
      rcases (cl j k hj hk).2 with w | ⟨l1, hl1, el1, en1⟩
      · exact absurd (el.symm.trans w) (pn_m1 (by omega))
      rcases (cl j q hj hq).2 with w | ⟨l2, hl2, el2, en2⟩
      · exact absurd (el1.symm.trans (z.trans w)) (pn_m1 (by omega))
      have hll : l1 = l2 := (nI_eq (by omega) (by omega)).mp (el1.symm.trans (z.trans el2))
      subst hll
      rcases en1 with ⟨u1, u2⟩ | ⟨u1, u2⟩ <;> rcases en2 with ⟨v1, v2⟩ | ⟨v1, v2⟩
      · exact u2.symm.trans v2
      · have a1 := (nI_eq (by omega) (by omega)).mp (u1.symm.trans v1)
        have a2 := (nI_eq (by omega) (by omega)).mp (u2.symm.trans v2)
        rw [a2, ← a1]
      · have a1 := (nI_eq (by omega) (by omega)).mp (u1.symm.trans v1)
        have a2 := (nI_eq (by omega) (by omega)).mp (u2.symm.trans v2)
        rw [a1, a2]
      · exact u1.symm.trans v1
    have mi : ∀ k, pn_mi σ 0 j (σ 27 0 j 3) (σ 27 0 j 3) k = -1 := by
      intro k
      induction k with
      | zero => rfl
      | succ k ih => unfold pn_mi; rw [if_neg (fun z => z.2.1 z.1)]; exact ih
    have rc : pn_rc σ 0 j (σ 27 0 j 3) (σ 27 0 j 3) P = pn_n1 (pn_bo σ 0 j (σ 27 0 j 3) P) := by
      unfold pn_rc
      rw [mi P, if_pos (by decide)]
    have e4 : ρ1 67 0 0 (26 + 10 * j + 2) = nI q := by rw [q1.1 67 (by decide), e3]; exact eq
    have ei : ((49 : Int32) * nI v + (7 * nI j)) + nI q = nI (49 * v + 7 * j + q) := ix_3 49 v 7 j q
    have ci := cl_I ei (by omega)
    have ii : vp_in (((49 : Int32) * nI v + (7 * nI j)) + nI q) 98 := in_I ei (by omega) (by decide)
    have lv : ρ1 50 0 0 17 = nI v := T1.2.1.2.1.2.2.1
    have bt : ρ1 64 0 0 (49 * v + 7 * j + q) = σ 13 0 j q := (T1.2.1.2.2.2.2.2.1 j q hj hq).1
    refine ⟨(pn_bo σ 0 j (σ 27 0 j 3) P).1, σ, ρ1, θ, h.look pn_qc.rf q1, fun Q hQ => ?_, fun Q hQ => ?_⟩
    · unfold wp_St_spare
      refine C_isOn1 hP hj ?_
      rw [if_neg c1, if_neg (by decide), if_neg c2, cj, if_neg c3]
      exact ⟨ij, ij, C_best hP hj _ hQ⟩
    · unfold wp_Mo_spare wp_Mo_spare_b67
      refine R_isOn1 hP hN hj ?_
      rw [if_neg c1, if_neg (by decide), if_neg c2]
      refine R_nowOf (i := 2) rfl rfl (by omega) (by decide) ?_
      rw [e3, if_pos (Int32.not_lt.mp (fun z => c3 ((po.neg h7).mp z)))]
      refine w1 _ ?_
      refine R_nowOf (i := 2) rfl rfl (by omega) (by decide) ?_
      rw [e4, lv, ci, bt]
      refine ⟨ii, R_best T1 hj (σ 27 0 j 3) _ wo ?_⟩
      rw [rc]
      unfold pn_n1
      rcases pn_bo_v T1.2.1 T1.2.2.1 hj (σ 27 0 j 3) P (Nat.le_refl _) with z | ⟨a, b, ha, hb, -, z, -⟩
      · rw [z] at hQ ⊢
        rw [if_pos rfl, if_neg (by decide)]; exact hQ
      · rw [z] at hQ ⊢
        rw [if_neg (pn_m2 (by omega)), if_pos (nI_pos' (by omega))]; exact hQ
end WAYSC
