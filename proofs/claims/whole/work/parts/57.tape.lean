theorem by_bv (x : BitVec 32) (k : Nat) (hk : k ≤ 24) : BitVec.signExtend 8 (x >>> k) = BitVec.signExtend 8 (x.sshiftRight k) := by
  apply BitVec.eq_of_getLsbD_eq
  intro i hi
  rw [BitVec.getLsbD_signExtend, BitVec.getLsbD_signExtend]
  simp only [hi, decide_true, Bool.true_and]
  rw [if_pos (by omega), if_pos (by omega), BitVec.getLsbD_sshiftRight, BitVec.getLsbD_ushiftRight]
  have h1 : ¬ 32 ≤ i := by omega
  have h2 : k + i < 32 := by omega
  simp [h1, h2]
theorem by_24 (x : Int32) : ((x.toUInt32 >>> ((24 : Int32).toUInt32 &&& Int32.toUInt32 31)).toInt32).toInt8 = (x >>> ((24 : Int32) &&& 31)).toInt8 := by
  apply Int8.toBitVec_inj.mp
  rw [Int32.toBitVec_toInt8, Int32.toBitVec_toInt8]
  exact by_bv x.toBitVec 24 (by decide)
theorem by_16 (x : Int32) : ((x.toUInt32 >>> ((16 : Int32).toUInt32 &&& Int32.toUInt32 31)).toInt32).toInt8 = (x >>> ((16 : Int32) &&& 31)).toInt8 := by
  apply Int8.toBitVec_inj.mp
  rw [Int32.toBitVec_toInt8, Int32.toBitVec_toInt8]
  exact by_bv x.toBitVec 16 (by decide)
theorem by_8 (x : Int32) : ((x.toUInt32 >>> ((8 : Int32).toUInt32 &&& Int32.toUInt32 31)).toInt32).toInt8 = (x >>> ((8 : Int32) &&& 31)).toInt8 := by
  apply Int8.toBitVec_inj.mp
  rw [Int32.toBitVec_toInt8, Int32.toBitVec_toInt8]
  exact by_bv x.toBitVec 8 (by decide)
theorem by_0 (x : Int32) : ((x.toUInt32 >>> ((0 : Int32).toUInt32 &&& Int32.toUInt32 31)).toInt32).toInt8 = (x >>> ((0 : Int32) &&& 31)).toInt8 := by
  apply Int8.toBitVec_inj.mp
  rw [Int32.toBitVec_toInt8, Int32.toBitVec_toInt8]
  exact by_bv x.toBitVec 0 (by decide)
section TAPE
variable {P L v m n : Nat} {σ σ2 ρ ρ2 : sx_M} {θ : sx_L}
/-- t bytes lie on both tapes -/
def pn_t (t : Nat) (σ ρ : sx_M) : Prop := σ 1 0 0 1 = nI t ∧ ρ 50 0 0 2 = nI t ∧ ∀ i, i < t → σ 2 0 0 i = ρ 51 0 0 i
def pn_tc (σ σ2 : sx_M) : Prop := ∀ k n p, ¬ (k = 1 ∨ k = 2) → σ2 k n p = σ k n p
def pn_tr (ρ ρ2 : sx_M) : Prop := (∀ k n p, ¬ (k = 50 ∨ k = 51) → ρ2 k n p = ρ k n p) ∧ ∀ j, ¬ j = 2 → ρ2 50 0 0 j = ρ 50 0 0 j
theorem pn_tc.tr {a b c : sx_M} (h : pn_tc a b) (h2 : pn_tc b c) : pn_tc a c := fun k n p q => (h2 k n p q).trans (h k n p q)
theorem pn_tr.tr {a b c : sx_M} (h : pn_tr a b) (h2 : pn_tr b c) : pn_tr a c := ⟨fun k n p q => (h2.1 k n p q).trans (h.1 k n p q), fun j q => (h2.2 j q).trans (h.2 j q)⟩
/-- the tapes alone have changed -/
theorem pn_I.tape (h : pn_I σ ρ θ) (hc : pn_tc σ σ2) (hr : pn_tr ρ ρ2) {t : Nat} (ht : t ≤ 2000) (hT : pn_t t σ2 ρ2) : pn_I σ2 ρ2 θ := by
  obtain ⟨P, L, v, m, hP, hN, hA, ⟨-, t5⟩, hU, hH, ⟨s1, s2, s3⟩, ky⟩ := h
  obtain ⟨r1, r2⟩ := hr
  have c8 : ∀ k n p, 8 ≤ k → k < 16 → σ2 k n p = σ k n p := fun k n p h1 h2 => hc k n p (by omega)
  refine ⟨P, L, v, m, hP.mvA c8 (r2 17 (by decide)) (fun k h1 h2 => r1 k 0 0 (by omega)), hN.mv (fun k p h1 h2 => hc k 0 p (by omega)) (r1 67 0 0 (by decide)), hA.mw8 (fun k p h1 h2 => hc k 0 p (by omega)) c8, ⟨⟨t, ht, hT.1, hT.2.1, hT.2.2⟩, ?_⟩, ?_, ?_, ⟨?_, ?_, ?_⟩, ky⟩
  · rw [hc 3 0 0 (by decide), r2 16 (by decide)]; exact t5
  · exact hU.mw (fun i hi k p h1 h2 => hc k _ p (by omega)) c8 (fun j _ => by rw [hc 0 0 0 (by decide)]) (fun j hj => r2 j (by omega)) (r1 71 0 0 (by decide))
  · exact hH.mw (fun i hi k p h1 h2 => hc k _ p (by omega)) c8 (hc 39 0 0 (by decide)) (r1 72 0 0 (by decide)) (r1 73 0 0 (by decide))
  · rw [hc 31 0 0 (by decide)]; exact s1
  · rw [hc 31 1 0 (by decide)]; exact s2
  · rw [r2 31 (by decide)]; exact s3
theorem S_byte {t : Nat} (ht : t + 1 ≤ 2000) (hT : pn_t t σ ρ) (b : Int32) : ∃ σ2 ρ2, σ2 = sx_u (sx_u σ 2 0 0 t b) 1 0 0 1 (nI (t + 1)) ∧ ρ2 = sx_u (sx_u ρ 51 0 0 t b) 50 0 0 2 (nI (t + 1)) ∧ pn_t (t + 1) σ2 ρ2 ∧ pn_tc σ σ2 ∧ pn_tr ρ ρ2 := by
  refine ⟨_, _, rfl, rfl, ⟨?_, ?_, fun i hi => ?_⟩, fun k n p h => ?_, fun k n p h => ?_, fun j hj => ?_⟩
  · rw [sx_u_at]; simp
  · rw [sx_u_at]; simp
  · have x1 : sx_u (sx_u σ 2 0 0 t b) 1 0 0 1 (nI (t + 1)) 2 0 0 i = sx_u σ 2 0 0 t b 2 0 0 i := by rw [sx_u_row _ _ _ _ _ _ (show ¬ (2 = 1 ∧ 0 = 0 ∧ 0 = 0) by decide)]
    have x2 : sx_u (sx_u ρ 51 0 0 t b) 50 0 0 2 (nI (t + 1)) 51 0 0 i = sx_u ρ 51 0 0 t b 51 0 0 i := by rw [sx_u_row _ _ _ _ _ _ (show ¬ (51 = 50 ∧ 0 = 0 ∧ 0 = 0) by decide)]
    rw [x1, x2, sx_u_at, sx_u_at]
    by_cases c : i = t
    · rw [if_pos ⟨rfl, rfl, rfl, c⟩, if_pos ⟨rfl, rfl, rfl, c⟩]
    · rw [if_neg (by omega), if_neg (by omega)]; exact hT.2.2 i (by omega)
  · rw [sx_u_row _ _ _ _ _ _ (by omega), sx_u_row _ _ _ _ _ _ (by omega)]
  · rw [sx_u_row _ _ _ _ _ _ (by omega), sx_u_row _ _ _ _ _ _ (by omega)]
  · rw [sx_u_at, if_neg (by omega), sx_u_row _ _ _ _ _ _ (by decide)]
theorem S_put1 {t : Nat} (ht : t + 1 ≤ 2000) (hT : pn_t t σ ρ) (x k : Int32) (hk : ¬ k < 0) (hb : ((x.toUInt32 >>> (k.toUInt32 &&& Int32.toUInt32 31)).toInt32).toInt8 = (x >>> (k &&& 31)).toInt8) : ∃ σ2 ρ2, pn_t (t + 1) σ2 ρ2 ∧ pn_tc σ σ2 ∧ pn_tr ρ ρ2 ∧ (∀ (Q : sx_M → Prop) f, wp_Ta_putFour_b3 Q f x (k + (-8)) σ2 → wp_Ta_putFour_b3 Q (f + 1) x k σ) ∧ (∀ (Q : sx_M → sx_L → Prop) f, wp_Mo_lays_b3 Q f x (k + (-8)) ρ2 θ → wp_Mo_lays_b3 Q (f + 1) x k ρ θ) := by
  obtain ⟨σ2, ρ2, e1, e2, T2, c2, r2⟩ := S_byte ht hT (vp_nar .byte ((x >>> (k &&& 31)).toInt8.toInt32))
  obtain ⟨t1, t2, t3⟩ := hT
  have ct : (nI t).toNatClampNeg = t := nI_clamp (by omega)
  refine ⟨σ2, ρ2, T2, c2, r2, fun Q f h => ?_, fun Q f h => ?_⟩
  · rw [wp_Ta_putFour_b3, if_neg hk, t1, if_neg (show ¬ 2000 ≤ nI t from nI_ge (b := 2000) (by omega) (by decide)), ct, hb]
    refine ⟨vp_in_nI (by omega) (by decide), fun _ q => ?_⟩
    subst q
    intro _ q
    rw [sx_u_row _ _ _ _ _ _ (show ¬ (1 = 2 ∧ 0 = 0 ∧ 0 = 0) by decide), t1, nI_1, ← e1] at q
    subst q
    exact h
  · rw [wp_Mo_lays_b3, if_neg hk, t2, ct]
    refine ⟨vp_in_nI (by omega) (by decide), fun _ q => ?_⟩
    subst q
    intro _ q
    rw [sx_u_row _ _ _ _ _ _ (show ¬ (50 = 51 ∧ 0 = 0 ∧ 0 = 0) by decide), t2, nI_1, ← e2] at q
    subst q
    exact h
theorem S_four {t : Nat} (ht : t + 4 ≤ 2000) (hT : pn_t t σ ρ) (x : Int32) : ∃ σ2 ρ2, pn_t (t + 4) σ2 ρ2 ∧ pn_tc σ σ2 ∧ pn_tr ρ ρ2 ∧ (∀ Q : sx_M → Prop, Q σ2 → wp_Ta_putFour x σ Q) ∧ (∀ Q : sx_M → sx_L → Prop, Q ρ2 θ → wp_Mo_lays x ρ θ Q) := by
  obtain ⟨σ1, ρ1, T1, c1, r1, wC1, wR1⟩ := S_put1 (θ := θ) (by omega) hT x 24 (by decide) (by_24 x)
  obtain ⟨σ2, ρ2, T2, c2, r2, wC2, wR2⟩ := S_put1 (θ := θ) (by omega) T1 x 16 (by decide) (by_16 x)
  obtain ⟨σ3, ρ3, T3, c3, r3, wC3, wR3⟩ := S_put1 (θ := θ) (by omega) T2 x 8 (by decide) (by_8 x)
  obtain ⟨σ4, ρ4, T4, c4, r4, wC4, wR4⟩ := S_put1 (θ := θ) (by omega) T3 x 0 (by decide) (by_0 x)
  refine ⟨σ4, ρ4, T4, ((c1.tr c2).tr c3).tr c4, ((r1.tr r2).tr r3).tr r4, fun Q hQ => ?_, fun Q hQ => ?_⟩
  · refine ⟨5, wC1 Q 4 (wC2 Q 3 (wC3 Q 2 (wC4 Q 1 ?_)))⟩
    rw [wp_Ta_putFour_b3, if_pos (by decide)]; exact hQ
  · refine ⟨5, wR1 Q 4 (wR2 Q 3 (wR3 Q 2 (wR4 Q 1 ?_)))⟩
    rw [wp_Mo_lays_b3, if_pos (by decide)]; exact hQ
/-- promise 2 -/
theorem M_feed (h : pn_I σ ρ θ) (a b c d e : Int32) : pn_ok (wp_St_feed a b c d e σ) (wp_Mo_feed a b c d e ρ θ) := by
  obtain ⟨P, L, v, m, hP, hN, hA, ⟨⟨t, t1, t2, t3, t4⟩, t5⟩, -⟩ := id h
  have e20 : nI t + 20 = nI (t + 20) := nI_add t 20
  by_cases c0 : t + 20 ≤ 2000
  · have k0 : nI t + 20 ≤ 2000 := by rw [e20]; exact nI_le (b := 2000) c0 (by decide)
    obtain ⟨σ1, ρ1, T1, c1, r1, wC1, wR1⟩ := S_four (θ := θ) (by omega) ⟨t2, t3, t4⟩ a
    obtain ⟨σ2, ρ2, T2, c2, r2, wC2, wR2⟩ := S_four (θ := θ) (by omega) T1 b
    obtain ⟨σ3, ρ3, T3, c3, r3, wC3, wR3⟩ := S_four (θ := θ) (by omega) T2 c
    obtain ⟨σ4, ρ4, T4, c4, r4, wC4, wR4⟩ := S_four (θ := θ) (by omega) T3 d
    obtain ⟨σ5, ρ5, T5, c5, r5, wC5, wR5⟩ := S_four (θ := θ) (by omega) T4 e
    refine ⟨nI (t + 4 + 4 + 4 + 4 + 4), σ5, ρ5, θ, h.tape ((((c1.tr c2).tr c3).tr c4).tr c5) ((((r1.tr r2).tr r3).tr r4).tr r5) (by omega) T5, fun Q hQ => ?_, fun Q hQ => ?_⟩
    · unfold wp_St_feed
      rw [t2, if_pos k0]
      refine wC1 _ (wC2 _ (wC3 _ (wC4 _ (wC5 _ ?_))))
      rw [T5.1]; exact hQ
    · unfold wp_Mo_feed
      rw [t3, if_pos k0]
      refine wR1 _ (wR2 _ (wR3 _ (wR4 _ (wR5 _ ?_))))
      rw [T5.2.1]; exact hQ
  · have k0 : ¬ nI t + 20 ≤ 2000 := by rw [e20]; exact nI_ge (a := 2000) (by omega) (by omega)
    refine ⟨-1, σ, ρ, θ, h, fun Q hQ => ?_, fun Q hQ => ?_⟩
    · unfold wp_St_feed
      rw [t2, if_neg k0]; exact hQ
    · unfold wp_Mo_feed
      rw [t3, if_neg k0]; exact hQ
/-- promise 3 -/
theorem M_back (h : pn_I σ ρ θ) (x : Int32) : pn_ok (wp_St_back x σ) (wp_Mo_back x ρ θ) := by
  obtain ⟨P, L, v, m, hP, hN, hA, ⟨⟨t, t1, t2, t3, t4⟩, t5⟩, -⟩ := id h
  by_cases c0 : x < 0
  · refine ⟨-1, σ, ρ, θ, h, fun Q hQ => ?_, fun Q hQ => ?_⟩
    · unfold wp_St_back wp_St_back_b15
      rw [if_pos c0]; exact hQ
    · unfold wp_Mo_back wp_Mo_back_b12
      rw [if_pos c0]; exact hQ
  by_cases c1 : x ≤ nI t
  · obtain ⟨a, ha, rfl⟩ := nI_of c0
    have hat : a ≤ t := (nI_leI ha (by omega)).mp c1
    have es : nI t - nI a = nI (t - a) := pk_sub hat
    refine ⟨nI (t - a), sx_u σ 1 0 0 1 (nI (t - a)), sx_u ρ 50 0 0 2 (nI (t - a)), θ, h.tape (fun k n p hk => sx_u_row _ _ _ _ _ _ (by omega)) ⟨fun k n p hk => sx_u_row _ _ _ _ _ _ (by omega), fun j hj => by rw [sx_u_at, if_neg (by omega)]⟩ (t := t - a) (by omega) ⟨by rw [sx_u_at]; simp, by rw [sx_u_at]; simp, fun i hi => ?_⟩, fun Q hQ => ?_, fun Q hQ => ?_⟩
    · rw [sx_u_row _ _ _ _ _ _ (by decide), sx_u_row _ _ _ _ _ _ (by decide)]; exact t4 i (by omega)
    · unfold wp_St_back
      rw [if_neg c0, t2, if_pos c1, es]
      intro _ q; subst q
      rw [show sx_u σ 1 0 0 1 (nI (t - a)) 1 0 0 1 = nI (t - a) by rw [sx_u_at]; simp]; exact hQ
    · unfold wp_Mo_back
      rw [if_neg c0, t3, if_pos c1, es]
      intro _ q; subst q
      rw [show sx_u ρ 50 0 0 2 (nI (t - a)) 50 0 0 2 = nI (t - a) by rw [sx_u_at]; simp]; exact hQ
  · refine ⟨-1, σ, ρ, θ, h, fun Q hQ => ?_, fun Q hQ => ?_⟩
    · unfold wp_St_back wp_St_back_b15
      rw [if_neg c0, t2, if_neg c1]; exact hQ
    · unfold wp_Mo_back wp_Mo_back_b12
      rw [if_neg c0, t3, if_neg c1]; exact hQ
end TAPE
