/-- fields copied one by one -/
def cpU (kd n n1 p o : Nat) (σ : sx_M) : Nat → sx_M
  | 0 => σ
  | k + 1 => sx_u (cpU kd n n1 p o σ k) kd n p (o + k) (cpU kd n n1 p o σ k kd n1 p (o + k))
theorem cpU_at {n n1 : Nat} (hn : ¬ n = n1) (kd p o : Nat) (σ : sx_M) : ∀ k, (∀ q n' p', ¬ (q = kd ∧ n' = n ∧ p' = p) → cpU kd n n1 p o σ k q n' p' = σ q n' p') ∧ (∀ j, j < k → cpU kd n n1 p o σ k kd n p (o + j) = σ kd n1 p (o + j)) ∧ ∀ j, ¬ (o ≤ j ∧ j < o + k) → cpU kd n n1 p o σ k kd n p j = σ kd n p j
  | 0 => ⟨fun _ _ _ _ => rfl, fun j h => absurd h (Nat.not_lt_zero j), fun _ _ => rfl⟩
  | k + 1 => by
    obtain ⟨a, b, c⟩ := cpU_at hn kd p o σ k
    refine ⟨fun q n' p' h => ?_, fun j hj => ?_, fun j hj => ?_⟩
    · unfold cpU
      rw [sx_u_row _ _ _ _ _ _ h]; exact a q n' p' h
    · unfold cpU
      rw [sx_u_at]
      by_cases e : j = k
      · subst e; rw [if_pos ⟨rfl, rfl, rfl, rfl⟩, a kd n1 p (fun z => hn z.2.1.symm)]
      · rw [if_neg (by omega)]; exact b j (by omega)
    · unfold cpU
      rw [sx_u_at, if_neg (by omega)]; exact c j (by omega)
section COPY
variable {P L v m e : Nat} {σ σ2 ρ : sx_M} {θ : sx_L}
theorem C_pcopy {n n1 p : Nat} (hn : ¬ n = n1) (hz : pn_z (σ 27 n1 p 0)) :
    ∃ σ2, (∀ j, j ≤ 10 → σ2 27 n p j = σ 27 n1 p j) ∧ (∀ q j, (28 ≤ q ∧ q ≤ 30) → j < 7 → σ2 q n p j = σ q n1 p j) ∧ (∀ q n' p', ¬ ((27 ≤ q ∧ q ≤ 30) ∧ n' = n ∧ p' = p) → σ2 q n' p' = σ q n' p') ∧ ∀ Q : sx_M → Prop, Q σ2 → wp_Po_copyFrom n p n1 p σ Q := by
  obtain ⟨a, b, -⟩ := cpU_at hn 27 p 0 σ 11
  obtain ⟨s1, e1⟩ : ∃ x, x = cpU 27 n n1 p 0 σ 11 := ⟨_, rfl⟩
  obtain ⟨s2, e2⟩ : ∃ x, x = sx_r s1 28 n p (va_cpy (s1 28 n1 p) (s1 28 n p) 0 0 7) := ⟨_, rfl⟩
  obtain ⟨s3, e3⟩ : ∃ x, x = sx_r s2 29 n p (va_cpy (s2 29 n1 p) (s2 29 n p) 0 0 7) := ⟨_, rfl⟩
  obtain ⟨s4, e4⟩ : ∃ x, x = sx_r s3 30 n p (va_cpy (s3 30 n1 p) (s3 30 n p) 0 0 7) := ⟨_, rfl⟩
  rw [← e1] at a b
  have o2 : ∀ q n' p', ¬ (q = 28 ∧ n' = n ∧ p' = p) → s2 q n' p' = s1 q n' p' := fun q n' p' h => by rw [e2, sx_r_ne h]
  have o3 : ∀ q n' p', ¬ (q = 29 ∧ n' = n ∧ p' = p) → s3 q n' p' = s2 q n' p' := fun q n' p' h => by rw [e3, sx_r_ne h]
  have o4 : ∀ q n' p', ¬ (q = 30 ∧ n' = n ∧ p' = p) → s4 q n' p' = s3 q n' p' := fun q n' p' h => by rw [e4, sx_r_ne h]
  have n1n : ¬ n1 = n := fun z => hn z.symm
  refine ⟨s4, fun j hj => ?_, fun q j hq hj => ?_, fun q n' p' h => ?_, fun Q hQ => ?_⟩
  · rw [o4 27 n p (by omega), o3 27 n p (by omega), o2 27 n p (by omega)]
    have := b j (by omega)
    rw [Nat.zero_add] at this
    exact this
  · rcases (show q = 28 ∨ q = 29 ∨ q = 30 by omega) with rfl | rfl | rfl
    · rw [o4 28 n p (by omega), o3 28 n p (by omega), e2, sx_r_row, cpy_at, if_pos hj, a 28 n1 p (by omega)]
    · rw [o4 29 n p (by omega), e3, sx_r_row, cpy_at, if_pos hj, o2 29 n1 p (by omega), a 29 n1 p (by omega)]
    · rw [e4, sx_r_row, cpy_at, if_pos hj, o3 30 n1 p (by omega), o2 30 n1 p (by omega), a 30 n1 p (by omega)]
  · rw [o4 q n' p' (by omega), o3 q n' p' (by omega), o2 q n' p' (by omega), a q n' p' (by omega)]
  · have chk : (¬ (0 : Int32) < 0 ∧ ¬ (0 : Int32) < 0 ∧ ¬ (7 : Int32) < 0 ∧ (0 : Int32).toNatClampNeg + (7 : Int32).toNatClampNeg ≤ 7 ∧ (0 : Int32).toNatClampNeg + (7 : Int32).toNatClampNeg ≤ 7) := by decide
    unfold wp_Po_copyFrom
    refine ⟨hz, ?_⟩
    intro _ q; subst q
    intro _ q; subst q
    intro _ q; subst q
    intro _ q; subst q
    intro _ q; subst q
    intro _ q; subst q
    intro _ q; subst q
    intro _ q; subst q
    intro _ q; subst q
    intro _ q; subst q
    intro t q
    have q1 : t = s1 := q.trans e1.symm
    subst q1
    refine ⟨chk, fun t q => ?_⟩
    have q1 : t = s2 := q.trans e2.symm
    subst q1
    refine ⟨chk, fun t q => ?_⟩
    have q1 : t = s3 := q.trans e3.symm
    subst q1
    refine ⟨chk, fun t q => ?_⟩
    have q1 : t = s4 := q.trans e4.symm
    subst q1
    exact hQ
/-- what a copy of a net leaves alone -/
def pn_cf (n : Nat) (σ σ2 : sx_M) : Prop := ∀ k n' p, ¬ ((16 ≤ k ∧ k ≤ 30) ∧ n' = n) → σ2 k n' p = σ k n' p
/-- all that tells of the net n is that of n1 -/
def pn_cn (P m n n1 : Nat) (σ σ2 : sx_M) : Prop := (∀ f, 1 ≤ f → f ≤ 7 → σ2 16 n 0 f = σ 16 n1 0 f) ∧ (∀ q l, (q = 18 ∨ q = 19) → l < 16 → σ2 q n 0 l = σ q n1 0 l) ∧ (∀ p j, p < P → j ≤ 10 → σ2 27 n p j = σ 27 n1 p j) ∧ (∀ q p j, (28 ≤ q ∧ q ≤ 30) → p < P → j < 7 → σ2 q n p j = σ q n1 p j) ∧ σ2 20 n 0 0 = nI m ∧ ∀ q i, (21 ≤ q ∧ q ≤ 26) → i < m → σ2 q n 0 i = σ q n1 0 i
theorem C_ncopyLoop {n n1 : Nat} (hn : ¬ n = n1) (h7 : P ≤ 7) : ∀ (c d : Nat) (σ : sx_M), d + c = P → σ 8 0 0 0 = nI P → (∀ p, p < P → pn_z (σ 27 n1 p 0)) →
    ∃ σ2, (∀ p j, d ≤ p → p < P → j ≤ 10 → σ2 27 n p j = σ 27 n1 p j) ∧ (∀ q p j, (28 ≤ q ∧ q ≤ 30) → d ≤ p → p < P → j < 7 → σ2 q n p j = σ q n1 p j) ∧ (∀ q n' p', ¬ ((27 ≤ q ∧ q ≤ 30) ∧ n' = n ∧ d ≤ p') → σ2 q n' p' = σ q n' p') ∧ ∀ Q : sx_M → Prop, wp_Ne_copyFrom_b58 n Q 1 n1 (nI P) σ2 → ∃ f, wp_Ne_copyFrom_b58 n Q f n1 (nI d) σ
  | 0, d, σ, hd, h8, hz => by
    have : d = P := by omega
    subst this
    exact ⟨σ, fun p j h1 h2 => by omega, fun q p j _ h1 h2 => by omega, fun _ _ _ _ => rfl, fun Q hQ => ⟨1, hQ⟩⟩
  | c + 1, d, σ, hd, h8, hz => by
    obtain ⟨σ1, a1, a2, a3, w1⟩ := C_pcopy (n := n) (n1 := n1) (p := d) hn (hz d (by omega))
    have n1n : ¬ n1 = n := fun z => hn z.symm
    obtain ⟨σ2, b1, b2, b3, w2⟩ := C_ncopyLoop hn h7 c (d + 1) σ1 (by omega) (by rw [a3 8 0 0 (by omega)]; exact h8) (fun p hp => by rw [a3 27 n1 p (by omega)]; exact hz p hp)
    refine ⟨σ2, fun p j h1 h2 hj => ?_, fun q p j hq h1 h2 hj => ?_, fun q n' p' h => ?_, fun Q hQ => ?_⟩
    · by_cases c1 : p = d
      · subst c1; rw [b3 27 n p (by omega)]; exact a1 j hj
      · rw [b1 p j (by omega) h2 hj, a3 27 n1 p (by omega)]
    · by_cases c1 : p = d
      · subst c1; rw [b3 q n p (by omega)]; exact a2 q j hq hj
      · rw [b2 q p j hq (by omega) h2 hj, a3 q n1 p (by omega)]
    · rw [b3 q n' p' (by omega), a3 q n' p' (by omega)]
    · obtain ⟨f, hf⟩ := w2 Q hQ
      refine ⟨f + 1, ?_⟩
      rw [wp_Ne_copyFrom_b58, h8, if_neg (nI_ge (by omega) (by omega)), nI_clamp (n := d) (by omega)]
      exact ⟨vp_in_nI (by omega) (by decide), vp_in_nI (by omega) (by decide), w1 _ (by rw [nI_1]; exact hf)⟩
theorem C_ncopy (hP : pn_P P L v σ ρ) {n n1 : Nat} (hn : ¬ n = n1) (hm : m ≤ 200) (h20 : σ 20 n1 0 0 = nI m) (hz : ∀ p, p < P → pn_z (σ 27 n1 p 0)) :
    ∃ σ2, pn_cn P m n n1 σ σ2 ∧ pn_cf n σ σ2 ∧ ∀ Q : sx_M → Prop, Q σ2 → wp_Ne_copyFrom n n1 σ Q := by
  have h7 := hP.1.1
  have n1n : ¬ n1 = n := fun z => hn z.symm
  obtain ⟨a, b, -⟩ := cpU_at hn 16 0 1 σ 7
  obtain ⟨s1, e1⟩ : ∃ x, x = cpU 16 n n1 0 1 σ 7 := ⟨_, rfl⟩
  rw [← e1] at a b
  obtain ⟨s2, b1, b2, b3, w2⟩ := C_ncopyLoop hn h7 P 0 s1 (by omega) (by rw [a 8 0 0 (by omega)]; exact hP.2.1.1) (fun p hp => by rw [a 27 n1 p (by omega)]; exact hz p hp)
  obtain ⟨s3, e3⟩ : ∃ x, x = sx_r s2 18 n 0 (va_cpy (s2 18 n1 0) (s2 18 n 0) 0 0 16) := ⟨_, rfl⟩
  obtain ⟨s4, e4⟩ : ∃ x, x = sx_r s3 19 n 0 (va_cpy (s3 19 n1 0) (s3 19 n 0) 0 0 16) := ⟨_, rfl⟩
  have o3 : ∀ q n' p', ¬ (q = 18 ∧ n' = n ∧ p' = 0) → s3 q n' p' = s2 q n' p' := fun q n' p' h => by rw [e3, sx_r_ne h]
  have o4 : ∀ q n' p', ¬ (q = 19 ∧ n' = n ∧ p' = 0) → s4 q n' p' = s3 q n' p' := fun q n' p' h => by rw [e4, sx_r_ne h]
  obtain ⟨s5, c1, c2, c3, w5⟩ := C_mail (σ := s4) (m := m) hn hm (by rw [o4 20 n1 0 (by omega), o3 20 n1 0 (by omega), b3 20 n1 0 (by omega), a 20 n1 0 (by omega)]; exact h20)
  refine ⟨s5, ⟨fun f h1 h2 => ?_, fun q l hq hl => ?_, fun p j hp hj => ?_, fun q p j hq hp hj => ?_, c1, fun q i hq hi => ?_⟩, fun k n' p h => ?_, fun Q hQ => ?_⟩
  · rw [c3 16 n 0 (by omega), o4 16 n 0 (by omega), o3 16 n 0 (by omega), b3 16 n 0 (by omega)]
    have := b (f - 1) (by omega)
    rw [show 1 + (f - 1) = f by omega] at this
    exact this
  · rcases hq with rfl | rfl
    · rw [c3 18 n 0 (by omega), o4 18 n 0 (by omega), e3, sx_r_row, cpy_at, if_pos hl, b3 18 n1 0 (by omega), a 18 n1 0 (by omega)]
    · rw [c3 19 n 0 (by omega), e4, sx_r_row, cpy_at, if_pos hl, o3 19 n1 0 (by omega), b3 19 n1 0 (by omega), a 19 n1 0 (by omega)]
  · rw [c3 27 n p (by omega), o4 27 n p (by omega), o3 27 n p (by omega), b1 p j (by omega) hp hj, a 27 n1 p (by omega)]
  · rw [c3 q n p (by omega), o4 q n p (by omega), o3 q n p (by omega), b2 q p j hq (by omega) hp hj, a q n1 p (by omega)]
  · rw [c2 q i hq hi, o4 q n1 0 (by omega), o3 q n1 0 (by omega), b3 q n1 0 (by omega), a q n1 0 (by omega)]
  · rw [c3 k n' p (by omega), o4 k n' p (by omega), o3 k n' p (by omega), b3 k n' p (by omega), a k n' p (by omega)]
  · unfold wp_Ne_copyFrom
    intro _ q; subst q
    intro _ q; subst q
    intro _ q; subst q
    intro _ q; subst q
    intro _ q; subst q
    intro _ q; subst q
    intro t q
    have q1 : t = s1 := q.trans e1.symm
    subst q1
    refine w2 Q ?_
    have chk : (¬ (0 : Int32) < 0 ∧ ¬ (0 : Int32) < 0 ∧ ¬ (16 : Int32) < 0 ∧ (0 : Int32).toNatClampNeg + (16 : Int32).toNatClampNeg ≤ 16 ∧ (0 : Int32).toNatClampNeg + (16 : Int32).toNatClampNeg ≤ 16) := by decide
    rw [wp_Ne_copyFrom_b58, b3 8 0 0 (by omega), a 8 0 0 (by omega), hP.2.1.1, if_pos (nI_le (Nat.le_refl _) (by omega))]
    refine ⟨chk, fun t q => ?_⟩
    have q1 : t = s3 := q.trans e3.symm
    subst q1
    refine ⟨chk, fun t q => ?_⟩
    have q1 : t = s4 := q.trans e4.symm
    subst q1
    exact w5 _ hQ
/-- both copy: net and row -/
theorem pn_N.cn {n n1 k b : Nat} (hN : pn_N P L m σ n1 ρ k b) (hc : pn_cn P m n n1 σ σ2) : pn_N P L m σ2 n ρ k b := hN.cC hc.1 hc.2.1 hc.2.2.1 hc.2.2.2.1 hc.2.2.2.2.1 hc.2.2.2.2.2
theorem pn_A.cn {n n1 k b : Nat} (hP : pn_P P L v σ ρ) (hN : pn_N P L m σ n1 ρ k b) (hA : pn_A P σ n1) (hf : pn_cf n σ σ2) (hc : pn_cn P m n n1 σ σ2) : pn_A P σ2 n := pn_Z.cC hP hN hA (fun k n p _ hk => hf k n p (by omega)) hc.2.1 hc.2.2.1 (fun p j hp hj => hc.2.2.2.1 28 p j (by decide) hp hj)
end COPY
