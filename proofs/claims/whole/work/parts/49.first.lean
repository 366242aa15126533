/-- when a timer fires that is set -/
def pn_tf (s t : Int32) (p : Nat) (x : Int32) : Int32 := x / 2 + pn_lot s ((8 * t) + nI p) (x / 2)
/-- a post as at first: in the class, in the reference -/
def pn_pc (F s t q : Int32) (n p : Nat) (σ : sx_M) : Prop := (σ 27 n p 0 = 1 ∧ σ 27 n p 1 = 0 ∧ σ 27 n p 2 = (if p = 0 then 10 else 9999) ∧ σ 27 n p 3 = -2 ∧ σ 27 n p 4 = 9999 ∧ σ 27 n p 5 = 0 ∧ σ 27 n p 6 = q ∧ σ 27 n p 7 = F ∧ σ 27 n p 8 = 0 ∧ σ 27 n p 9 = 0 ∧ σ 27 n p 10 = pn_tf s t p F) ∧ ∀ j, j < 7 → σ 28 n p j = 9999 ∧ σ 29 n p j = -2
def pn_pr (F s t q : Int32) (p : Nat) (ρ : sx_M) : Prop := (ρ 68 0 0 (26 + 10 * p + 0) = 0 ∧ ρ 68 0 0 (26 + 10 * p + 1) = (if p = 0 then 10 else 9999) ∧ ρ 68 0 0 (26 + 10 * p + 2) = -2 ∧ ρ 68 0 0 (26 + 10 * p + 3) = 9999 ∧ ρ 68 0 0 (26 + 10 * p + 4) = 0 ∧ ρ 68 0 0 (26 + 10 * p + 5) = q ∧ ρ 68 0 0 (26 + 10 * p + 6) = F ∧ ρ 68 0 0 (26 + 10 * p + 7) = 0 ∧ ρ 68 0 0 (26 + 10 * p + 8) = 0 ∧ ρ 68 0 0 (26 + 10 * p + 9) = pn_tf s t p F) ∧ ∀ j, j < 7 → ρ 68 0 0 (96 + 7 * p + j) = 9999 ∧ ρ 68 0 0 (145 + 7 * p + j) = -2
theorem fgC_at (e p : Nat) (σ : sx_M) : ∀ k, (∀ q n' p', ¬ (q = 28 ∧ n' = e ∧ p' = p) → fgC e p σ k q n' p' = σ q n' p') ∧ ∀ j, j < k → fgC e p σ k 28 e p j = 9999
  | 0 => ⟨fun _ _ _ _ => rfl, fun j h => absurd h (Nat.not_lt_zero j)⟩
  | k + 1 => by
    obtain ⟨a, b⟩ := fgC_at e p σ k
    refine ⟨fun q n' p' h => ?_, fun j hj => ?_⟩
    · unfold fgC; rw [sx_u_row _ _ _ _ _ _ h]; exact a q n' p' h
    · unfold fgC; rw [sx_u_at]
      by_cases c : j = k
      · rw [if_pos ⟨rfl, rfl, rfl, c⟩]
      · rw [if_neg (by omega)]; exact b j (by omega)
/-- no routes -/
def nrC (e p : Nat) (σ : sx_M) : Nat → sx_M
  | 0 => σ
  | k + 1 => sx_u (sx_u (nrC e p σ k) 29 e p k (-2)) 30 e p k 0
theorem nrC_at (e p : Nat) (σ : sx_M) : ∀ k, (∀ q n' p', ¬ ((q = 29 ∨ q = 30) ∧ n' = e ∧ p' = p) → nrC e p σ k q n' p' = σ q n' p') ∧ ∀ j, j < k → nrC e p σ k 29 e p j = -2
  | 0 => ⟨fun _ _ _ _ => rfl, fun j h => absurd h (Nat.not_lt_zero j)⟩
  | k + 1 => by
    obtain ⟨a, b⟩ := nrC_at e p σ k
    refine ⟨fun q n' p' h => ?_, fun j hj => ?_⟩
    · unfold nrC; rw [sx_u_row _ _ _ _ _ _ (by omega), sx_u_row _ _ _ _ _ _ (by omega)]; exact a q n' p' h
    · unfold nrC; rw [sx_u_row _ _ _ _ _ _ (by omega), sx_u_at]
      by_cases c : j = k
      · rw [if_pos ⟨rfl, rfl, rfl, c⟩]
      · rw [if_neg (by omega)]; exact b j (by omega)
theorem C_nrLoop {e p : Nat} {σ : sx_M} {Q : sx_M → Prop} (h : Q (nrC e p σ 7)) : ∀ (c d : Nat), d + c = 7 → ∃ f, wp_Po_clear_b39 e p Q f (nI d) (nrC e p σ d)
  | 0, d, hd => by
    have : d = 7 := by omega
    subst this
    exact ⟨1, by rw [wp_Po_clear_b39, if_pos (by decide)]; exact h⟩
  | c + 1, d, hd => by
    obtain ⟨f, hh⟩ := C_nrLoop h c (d + 1) (by omega)
    refine ⟨f + 1, ?_⟩
    rw [wp_Po_clear_b39, if_neg (show ¬ 7 ≤ nI d from nI_ge (b := 7) (by omega) (by decide)), nI_clamp (n := d) (by omega), nI_1]
    refine ⟨vp_in_nI (by omega) (by decide), fun _ q => ?_⟩
    subst q
    refine ⟨vp_in_nI (by omega) (by decide), fun _ q => ?_⟩
    subst q
    exact hh
/-- the reference's rows of a post -/
def nrR (p : Nat) (ρ : sx_M) : Nat → sx_M
  | 0 => ρ
  | k + 1 => sx_u (sx_u (sx_u (nrR p ρ k) 68 0 0 (96 + 7 * p + k) 9999) 68 0 0 (145 + 7 * p + k) (-2)) 68 0 0 (194 + 7 * p + k) 0
theorem nrR_at {p : Nat} (hp : p < 7) (ρ : sx_M) : ∀ k, k ≤ 7 → (∀ q n' p', ¬ (q = 68 ∧ n' = 0 ∧ p' = 0) → nrR p ρ k q n' p' = ρ q n' p') ∧ (∀ j, j < k → nrR p ρ k 68 0 0 (96 + 7 * p + j) = 9999 ∧ nrR p ρ k 68 0 0 (145 + 7 * p + j) = -2) ∧ ∀ j, ¬ ((96 + 7 * p ≤ j ∧ j < 96 + 7 * p + k) ∨ (145 + 7 * p ≤ j ∧ j < 145 + 7 * p + k) ∨ (194 + 7 * p ≤ j ∧ j < 194 + 7 * p + k)) → nrR p ρ k 68 0 0 j = ρ 68 0 0 j
  | 0, _ => ⟨fun _ _ _ _ => rfl, fun j h => absurd h (Nat.not_lt_zero j), fun _ _ => rfl⟩
  | k + 1, hk => by
    obtain ⟨a, b, c⟩ := nrR_at hp ρ k (by omega)
    refine ⟨fun q n' p' h => ?_, fun j hj => ?_, fun j hj => ?_⟩
    · unfold nrR; rw [sx_u_row _ _ _ _ _ _ h, sx_u_row _ _ _ _ _ _ h, sx_u_row _ _ _ _ _ _ h]; exact a q n' p' h
    · unfold nrR
      refine ⟨?_, ?_⟩
      · rw [sx_u_at, if_neg (by omega), sx_u_at, if_neg (by omega), sx_u_at]
        by_cases c : j = k
        · rw [if_pos ⟨rfl, rfl, rfl, by rw [c]⟩]
        · rw [if_neg (by omega)]; exact (b j (by omega)).1
      · rw [sx_u_at, if_neg (by omega), sx_u_at]
        by_cases c : j = k
        · rw [if_pos ⟨rfl, rfl, rfl, by rw [c]⟩]
        · rw [if_neg (by omega), sx_u_at, if_neg (by omega)]; exact (b j (by omega)).2
    · unfold nrR
      rw [sx_u_at, if_neg (by omega), sx_u_at, if_neg (by omega), sx_u_at, if_neg (by omega)]; exact c j (by omega)
theorem R_nrLoop {p : Nat} (hp : p < 7) {ρ : sx_M} {θ : sx_L} {Q : sx_M → sx_L → Prop} (h : wp_Mo_setting 0 (nrR p ρ 7) θ (fun r2 σ2 τ2 => wp_Mo_starts (nI p) r2 σ2 τ2 Q)) : ∀ (c d : Nat), d + c = 7 → ∃ f, wp_Mo_asAtFirst_b51 Q f (nI p) (nI d) (nrR p ρ d) θ
  | 0, d, hd => by
    have : d = 7 := by omega
    subst this
    exact ⟨1, by rw [wp_Mo_asAtFirst_b51, if_pos (by decide)]; exact h⟩
  | c + 1, d, hd => by
    obtain ⟨f, hh⟩ := R_nrLoop hp h c (d + 1) (by omega)
    refine ⟨f + 1, ?_⟩
    have e1 : ((96 : Int32) + (7 * nI p)) + nI d = nI (96 + 7 * p + d) := ix_2 96 7 p d
    have e2 : ((145 : Int32) + (7 * nI p)) + nI d = nI (145 + 7 * p + d) := ix_2 145 7 p d
    have e3 : ((194 : Int32) + (7 * nI p)) + nI d = nI (194 + 7 * p + d) := ix_2 194 7 p d
    rw [wp_Mo_asAtFirst_b51, if_neg (show ¬ 7 ≤ nI d from nI_ge (b := 7) (by omega) (by decide)), e1, e2, e3, nI_clamp (n := 96 + 7 * p + d) (by omega), nI_clamp (n := 145 + 7 * p + d) (by omega), nI_clamp (n := 194 + 7 * p + d) (by omega), nI_1]
    refine ⟨vp_in_nI (by omega) (by decide), fun _ q => ?_⟩
    subst q
    refine ⟨vp_in_nI (by omega) (by decide), fun _ q => ?_⟩
    subst q
    refine ⟨vp_in_nI (by omega) (by decide), fun _ q => ?_⟩
    subst q
    exact hh
section FIRST
variable {P L v m e : Nat} {σ σ2 ρ ρ2 : sx_M} {θ : sx_L}
theorem C_begin (hP : pn_P P L v σ ρ) {p : Nat} (hp : p < 7) :
    ∃ σ2, (∀ q n' p', ¬ ((27 ≤ q ∧ q ≤ 30) ∧ n' = e ∧ p' = p) → σ2 q n' p' = σ q n' p') ∧ pn_pc (σ 14 0 0 0) ((σ 14 0 0 8) + (σ 31 e 0 3)) (σ 16 e 0 1) (σ 27 e p 6) e p σ2 ∧ ∀ Q : sx_M → Prop, Q σ2 → wp_En_beginPost e (nI p) σ Q := by
  obtain ⟨hh, q1, q2, q3⟩ := hP.2.2.2.2.1.1
  have hhalf : (σ 14 0 0 0) / 2 = nI hh := by rw [q3, show nI (2 * hh) / 2 = nI (2 * hh / 2) from pk_div (d := 2) (by omega) (by decide) (by decide), Nat.mul_div_cancel_left _ (by decide)]
  have hpos : 0 < (σ 14 0 0 0) / 2 := by rw [hhalf]; exact nI_lt (a := 0) (by omega) (by omega)
  have cp : (nI p).toNatClampNeg = p := nI_clamp (by omega)
  have ip : vp_in (nI p) 7 := vp_in_nI hp (by decide)
  obtain ⟨s1, e1⟩ : ∃ z, z = sx_u (sx_u (sx_u (sx_u (sx_u (sx_u σ 27 e p 0 1) 27 e p 1 0) 27 e p 2 (if p = 0 then 10 else 9999)) 27 e p 3 (-2)) 27 e p 4 9999) 27 e p 5 0 := ⟨_, rfl⟩
  obtain ⟨a2, b2⟩ := fgC_at e p s1 7
  obtain ⟨s2, e2⟩ : ∃ z, z = fgC e p s1 7 := ⟨_, rfl⟩
  rw [← e2] at a2 b2
  obtain ⟨a3, b3⟩ := nrC_at e p s2 7
  obtain ⟨s3, e3⟩ : ∃ z, z = nrC e p s2 7 := ⟨_, rfl⟩
  rw [← e3] at a3 b3
  obtain ⟨s4, e4⟩ : ∃ z, z = sx_u (sx_u (sx_u s3 27 e p 7 (σ 14 0 0 0)) 27 e p 8 0) 27 e p 9 0 := ⟨_, rfl⟩
  obtain ⟨s5, e5⟩ : ∃ z, z = sx_u s4 27 e p 10 (pn_tf ((σ 14 0 0 8) + (σ 31 e 0 3)) (σ 16 e 0 1) p (σ 14 0 0 0)) := ⟨_, rfl⟩
  have o1 : ∀ q n' p', ¬ (q = 27 ∧ n' = e ∧ p' = p) → s1 q n' p' = σ q n' p' := fun q n' p' h => by
    rw [e1]; simp only [sx_u_row _ _ _ _ _ _ h]
  have o3 : ∀ q n' p', ¬ ((27 ≤ q ∧ q ≤ 30) ∧ n' = e ∧ p' = p) → s3 q n' p' = σ q n' p' := fun q n' p' h => by rw [a3 q n' p' (by omega), a2 q n' p' (by omega), o1 q n' p' (by omega)]
  have r27 : s3 27 e p = s1 27 e p := by rw [a3 27 e p (by omega), a2 27 e p (by omega)]
  have o4 : ∀ q n' p', ¬ (q = 27 ∧ n' = e ∧ p' = p) → s4 q n' p' = s3 q n' p' := fun q n' p' h => by
    rw [e4]; simp only [sx_u_row _ _ _ _ _ _ h]
  have o5 : ∀ q n' p', ¬ (q = 27 ∧ n' = e ∧ p' = p) → s5 q n' p' = s4 q n' p' := fun q n' p' h => by
    rw [e5]; simp only [sx_u_row _ _ _ _ _ _ h]
  have lo : ∀ j, j < 7 → s5 27 e p j = s1 27 e p j := fun j hj => by
    rw [e5, sx_u_at, if_neg (by omega), e4, sx_u_at, if_neg (by omega), sx_u_at, if_neg (by omega), sx_u_at, if_neg (by omega), r27]
  refine ⟨s5, fun q n' p' h => by rw [o5 q n' p' (by omega), o4 q n' p' (by omega), o3 q n' p' h], ⟨⟨?_, ?_, ?_, ?_, ?_, ?_, ?_, ?_, ?_, ?_, ?_⟩, fun j hj => ⟨?_, ?_⟩⟩, fun Q hQ => ?_⟩
  · rw [lo 0 (by decide), e1]; simp [sx_u_at]
  · rw [lo 1 (by decide), e1]; simp [sx_u_at]
  · rw [lo 2 (by decide), e1]; simp [sx_u_at]
  · rw [lo 3 (by decide), e1]; simp [sx_u_at]
  · rw [lo 4 (by decide), e1]; simp [sx_u_at]
  · rw [lo 5 (by decide), e1]; simp [sx_u_at]
  · rw [lo 6 (by decide), e1]; simp [sx_u_at]
  · rw [e5, e4]; simp [sx_u_at]
  · rw [e5, e4]; simp [sx_u_at]
  · rw [e5, e4]; simp [sx_u_at]
  · rw [e5]; simp [sx_u_at]
  · rw [o5 28 e p (by omega), o4 28 e p (by omega), a3 28 e p (by omega)]; exact b2 j hj
  · rw [o5 29 e p (by omega), o4 29 e p (by omega)]; exact b3 j hj
  · have fin : wp_En_beginPost_b21 e Q (nI p) e p (if p = 0 then 10 else 9999) σ := by
      unfold wp_En_beginPost_b21 wp_Po_clear
      intro _ q; subst q
      intro _ q; subst q
      intro _ q; subst q
      intro _ q; subst q
      intro _ q; subst q
      intro _ q; rw [← e1] at q; subst q
      unfold wp_Po_forgetHeard
      refine C_forget ?_ 7 0 rfl
      rw [← e2]
      refine C_nrLoop ?_ 7 0 rfl
      rw [← e3]
      refine ⟨in_I (n := 0) rfl (by decide) (by decide), ?_⟩
      rw [show (0 : Int32).toNatClampNeg = 0 from rfl, o3 14 0 0 (by omega)]
      unfold wp_En_setTimer
      rw [cp]
      refine ⟨ip, fun _ q => ?_⟩; subst q
      intro _ q; subst q
      intro _ q; rw [← e4] at q; subst q
      refine C_lot hpos ?_
      intro _ q
      rw [o4 14 0 0 (by omega), o3 14 0 0 (by omega), o4 31 e 0 (by omega), o3 31 e 0 (by omega), o4 16 e 0 (by omega), o3 16 e 0 (by omega)] at q
      have q2 : _ = s5 := q.trans e5.symm
      subst q2
      exact hQ
    unfold wp_En_beginPost
    rw [cp]
    refine ⟨ip, ?_⟩
    by_cases c : p = 0
    · rw [if_pos (show nI p = 0 by rw [c]; rfl)]; rw [if_pos c] at fin; exact fin
    · rw [if_neg (nI_ne0 (by omega) (by omega))]; rw [if_neg c] at fin; exact fin
theorem R_first (hP : pn_P P L v σ ρ) {p : Nat} (hp : p < 7) :
    ∃ ρ2, (∀ q n' p', ¬ (q = 68 ∧ n' = 0 ∧ p' = 0) → ρ2 q n' p' = ρ q n' p') ∧ (∀ j, ¬ ((26 + 10 * p ≤ j ∧ j < 36 + 10 * p) ∨ (96 + 7 * p ≤ j ∧ j < 103 + 7 * p) ∨ (145 + 7 * p ≤ j ∧ j < 152 + 7 * p) ∨ (194 + 7 * p ≤ j ∧ j < 201 + 7 * p)) → ρ2 68 0 0 j = ρ 68 0 0 j) ∧ pn_pr (σ 14 0 0 0) ((σ 14 0 0 8) + (ρ 50 0 0 31)) (ρ 68 0 0 0) (ρ 68 0 0 (26 + 10 * p + 5)) p ρ2 ∧ ∀ Q : sx_M → sx_L → Prop, Q ρ2 θ → wp_Mo_asAtFirst (nI p) ρ θ Q := by
  obtain ⟨hh, q1, q2, q3⟩ := hP.2.2.2.2.1.1
  have hhalf : (σ 14 0 0 0) / 2 = nI hh := by rw [q3, show nI (2 * hh) / 2 = nI (2 * hh / 2) from pk_div (d := 2) (by omega) (by decide) (by decide), Nat.mul_div_cancel_left _ (by decide)]
  have hne : ¬ (σ 14 0 0 0) / 2 = 0 := by rw [hhalf]; exact nI_ne0 (by omega) (by omega)
  obtain ⟨s1, e1⟩ : ∃ z, z = sx_u (sx_u (sx_u (sx_u (sx_u ρ 68 0 0 (26 + 10 * p + 0) 0) 68 0 0 (26 + 10 * p + 1) (if p = 0 then 10 else 9999)) 68 0 0 (26 + 10 * p + 2) (-2)) 68 0 0 (26 + 10 * p + 3) 9999) 68 0 0 (26 + 10 * p + 4) 0 := ⟨_, rfl⟩
  obtain ⟨a3, b3, c3⟩ := nrR_at hp s1 7 (by decide)
  obtain ⟨s3, e3⟩ : ∃ z, z = nrR p s1 7 := ⟨_, rfl⟩
  rw [← e3] at a3 b3 c3
  obtain ⟨s4, e4⟩ : ∃ z, z = sx_u (sx_u (sx_u s3 68 0 0 (26 + 10 * p + 6) (σ 14 0 0 0)) 68 0 0 (26 + 10 * p + 7) 0) 68 0 0 (26 + 10 * p + 8) 0 := ⟨_, rfl⟩
  obtain ⟨s5, e5⟩ : ∃ z, z = sx_u s4 68 0 0 (26 + 10 * p + 9) (pn_tf ((σ 14 0 0 8) + (ρ 50 0 0 31)) (ρ 68 0 0 0) p (σ 14 0 0 0)) := ⟨_, rfl⟩
  have o1 : ∀ q n' p', ¬ (q = 68 ∧ n' = 0 ∧ p' = 0) → s1 q n' p' = ρ q n' p' := fun q n' p' h => by
    rw [e1]; simp only [sx_u_row _ _ _ _ _ _ h]
  have o4 : ∀ q n' p', ¬ (q = 68 ∧ n' = 0 ∧ p' = 0) → s4 q n' p' = s3 q n' p' := fun q n' p' h => by
    rw [e4]; simp only [sx_u_row _ _ _ _ _ _ h]
  have o5 : ∀ q n' p', ¬ (q = 68 ∧ n' = 0 ∧ p' = 0) → s5 q n' p' = s4 q n' p' := fun q n' p' h => by
    rw [e5]; simp only [sx_u_row _ _ _ _ _ _ h]
  have j1 : ∀ j, ¬ (26 + 10 * p ≤ j ∧ j < 36 + 10 * p) → s1 68 0 0 j = ρ 68 0 0 j := fun j hj => by
    rw [e1, sx_u_at, if_neg (by omega), sx_u_at, if_neg (by omega), sx_u_at, if_neg (by omega), sx_u_at, if_neg (by omega), sx_u_at, if_neg (by omega)]
  have j4 : ∀ j, ¬ (26 + 10 * p + 6 ≤ j ∧ j < 36 + 10 * p) → s5 68 0 0 j = s3 68 0 0 j := fun j hj => by
    rw [e5, sx_u_at, if_neg (by omega), e4, sx_u_at, if_neg (by omega), sx_u_at, if_neg (by omega), sx_u_at, if_neg (by omega)]
  have lo : ∀ i, i < 6 → s5 68 0 0 (26 + 10 * p + i) = s1 68 0 0 (26 + 10 * p + i) := fun i hi => by
    rw [j4 _ (by omega), c3 _ (by omega)]
  refine ⟨s5, fun q n' p' h => by rw [o5 q n' p' h, o4 q n' p' h, a3 q n' p' h, o1 q n' p' h], fun j hj => by rw [j4 j (by omega), c3 j (by omega), j1 j (by omega)], ⟨⟨?_, ?_, ?_, ?_, ?_, ?_, ?_, ?_, ?_, ?_⟩, fun j hj => ⟨?_, ?_⟩⟩, fun Q hQ => ?_⟩
  · rw [lo 0 (by decide), e1]; simp [sx_u_at]
  · rw [lo 1 (by decide), e1]; simp [sx_u_at]
  · rw [lo 2 (by decide), e1]; simp [sx_u_at]
  · rw [lo 3 (by decide), e1]; simp [sx_u_at]
  · rw [lo 4 (by decide), e1]; simp [sx_u_at]
  · rw [lo 5 (by decide), e1]; simp [sx_u_at]
  · rw [e5, e4]; simp [sx_u_at]
  · rw [e5, e4]; simp [sx_u_at]
  · rw [e5, e4]; simp [sx_u_at]
  · rw [e5]; simp [sx_u_at]
  · rw [j4 _ (by omega)]; exact (b3 j hj).1
  · rw [j4 _ (by omega)]; exact (b3 j hj).2
  · have c0 : (0 : Int32).toNatClampNeg = 0 := rfl
    have P3 : pn_P P L v σ s3 := hP.mvA (fun _ _ _ _ _ => rfl) (by rw [a3 50 0 0 (by decide), o1 50 0 0 (by decide)]) (fun k h1 h2 => by rw [a3 k 0 0 (by omega), o1 k 0 0 (by omega)])
    have P4 : pn_P P L v σ s4 := P3.mvA (fun _ _ _ _ _ => rfl) (by rw [o4 50 0 0 (by decide)]) (fun k h1 h2 => by rw [o4 k 0 0 (by omega)])
    have fin : ∀ rk, rk = (if p = 0 then (10 : Int32) else 9999) → wp_Mo_asAtFirst_b22 Q (nI p) (nI p) 1 rk (sx_u ρ 68 0 0 (26 + 10 * p + 0) 0) θ := by
      intro rk hrk
      unfold wp_Mo_asAtFirst_b22
      refine R_keeps (i := 1) rfl rfl hp (by decide) ?_
      refine R_keeps (i := 2) rfl rfl hp (by decide) ?_
      refine R_keeps (i := 3) rfl rfl hp (by decide) ?_
      refine R_keeps (i := 4) rfl rfl hp (by decide) ?_
      rw [hrk, ← e1]
      refine R_nrLoop hp ?_ 7 0 rfl
      rw [← e3]
      refine R_setting P3 (i := 0) rfl (by decide) ?_
      unfold wp_Mo_starts
      refine R_keeps (i := 6) rfl rfl hp (by decide) ?_
      refine R_keeps (i := 7) rfl rfl hp (by decide) ?_
      refine R_keeps (i := 8) rfl rfl hp (by decide) ?_
      rw [← e4]
      refine ⟨in_I (n := 0) rfl (by decide) (by decide), ?_⟩
      refine R_lotOf P4 hne ?_
      refine R_keeps (i := 9) rfl rfl hp (by decide) ?_
      have z0 : s4 68 0 0 0 = ρ 68 0 0 0 := by rw [e4, sx_u_at, if_neg (by omega), sx_u_at, if_neg (by omega), sx_u_at, if_neg (by omega), c3 0 (by omega), j1 0 (by omega)]
      have z1 : s4 50 0 0 = ρ 50 0 0 := by rw [o4 50 0 0 (by decide), a3 50 0 0 (by decide), o1 50 0 0 (by decide)]
      rw [c0, z0, z1]
      have : sx_u s4 68 0 0 (26 + 10 * p + 9) ((σ 14 0 0 0) / 2 + pn_lot ((σ 14 0 0 8) + (ρ 50 0 0 31)) ((8 * ρ 68 0 0 0) + nI p) ((σ 14 0 0 0) / 2)) = s5 := by rw [e5]; rfl
      rw [this]; exact hQ
    unfold wp_Mo_asAtFirst
    refine R_keeps (i := 0) rfl rfl hp (by decide) ?_
    by_cases c : p = 0
    · rw [if_pos (show nI p = 0 by rw [c]; rfl)]; exact fin 10 (by rw [if_pos c])
    · rw [if_neg (nI_ne0 (by omega) (by omega))]; exact fin 9999 (by rw [if_neg c])
end FIRST
