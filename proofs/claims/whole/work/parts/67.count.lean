theorem cN_lq (g : Nat → Prop) [DecidablePred g] (b : Nat) : ∀ (c d : Nat), pn_lp (fun d a => a + (if g (b + d) then 1 else 0)) c d (nI (cN g (b + d))) = nI (cN g (b + d + c))
  | 0, d => rfl
  | c + 1, d => by
    show pn_lp _ c (d + 1) (nI (cN g (b + d)) + (if g (b + d) then 1 else 0)) = _
    rw [show nI (cN g (b + d)) + (if g (b + d) then 1 else 0) = nI (cN g (b + (d + 1))) by
      rw [show b + (d + 1) = (b + d) + 1 by omega, cN_s]
      by_cases z : g (b + d)
      · rw [if_pos z, if_pos z, nI_1]
      · rw [if_neg z, if_neg z, Int32.add_zero, Nat.add_zero], cN_lq g b c (d + 1), show b + (d + 1) + c = b + d + (c + 1) by omega]
theorem cN_no (g : Nat → Prop) [DecidablePred g] (a : Nat) : ∀ c, (∀ k, a ≤ k → k < a + c → ¬ g k) → cN g (a + c) = cN g a
  | 0, _ => rfl
  | c + 1, h => by
    rw [show a + (c + 1) = (a + c) + 1 by omega, cN_s, if_neg (h (a + c) (by omega) (by omega)), Nat.add_zero]
    exact cN_no g a c (fun k h1 h2 => h k h1 (by omega))
theorem or_b (f : Nat → Int32) {n : Nat} (hn : n < 16) : nI (pn_b f n) ||| (1 <<< (nI n &&& 31)) = nI (pn_b f n + 2 ^ n) := by
  have b1 := pn_b_lt f n
  have p1 : 2 ^ n ≤ 2 ^ 16 := Nat.pow_le_pow_right (by decide) (by omega)
  rw [shl_I n (by omega), or_I (by omega) (by omega)]
  congr 1
  have := Nat.two_pow_add_eq_or_of_lt b1 1
  rw [Nat.mul_one] at this
  rw [Nat.or_comm, ← this, Nat.add_comm]
theorem pn_b_lp (f : Nat → Int32) : ∀ (c d : Nat), d + c ≤ 16 → (∀ p, p < d + c → pn_z (f p)) → pn_lp (fun d a => if f d = 0 then a else a ||| (1 <<< (nI d &&& 31))) c d (nI (pn_b f d)) = nI (pn_b f (d + c))
  | 0, d, _, _ => rfl
  | c + 1, d, h, hz => by
    have e : (if f d = 0 then nI (pn_b f d) else nI (pn_b f d) ||| (1 <<< (nI d &&& 31))) = nI (pn_b f (d + 1)) := by
      rcases hz d (by omega) with z | z
      · rw [if_pos z]; show nI (pn_b f d) = nI (pn_b f d + (if f d = 1 then 2 ^ d else 0)); rw [if_neg (by rw [z]; decide), Nat.add_zero]
      · rw [if_neg (by rw [z]; decide), or_b f (by omega)]; show _ = nI (pn_b f d + (if f d = 1 then 2 ^ d else 0)); rw [if_pos z]
    show pn_lp _ c (d + 1) (if f d = 0 then nI (pn_b f d) else nI (pn_b f d) ||| (1 <<< (nI d &&& 31))) = _
    rw [e, pn_b_lp f c (d + 1) (by omega) (fun p hp => hz p (by omega)), show d + 1 + c = d + (c + 1) by omega]
section COUNT
variable {P L v m n : Nat} {σ σ2 ρ ρ2 : sx_M} {θ : sx_L}
/-- routes of all -/
theorem S_routes (hP : pn_P P L v σ ρ) (hN : pn_N P L m σ 0 ρ 67 0) : ∃ r, (∀ Q : Int32 → sx_M → Prop, Q r σ → wp_Ne_routes 0 σ Q) ∧ ∀ Q : Int32 → sx_M → sx_L → Prop, Q r ρ θ → ∃ f, wp_Mo_count_b136 Q f 0 0 ρ θ := by
  have h7 := hP.1.1
  have v1 : ∀ p j, p < P → j < P → ρ 67 0 0 (145 + (7 * p + j)) = σ 29 0 p j := fun p j hp hj => by
    have := (hN.2.2.2.2.2.2.2.1 p j hp hj).2.1
    rw [Nat.zero_add, Nat.add_assoc] at this; exact this
  have v2 : ∀ p j, p < 7 → j < 7 → P ≤ p ∨ P ≤ j → ρ 67 0 0 (145 + (7 * p + j)) = -2 := fun p j hp hj h => by
    have := hN.2.2.2.2.2.2.2.2.1 p j hp hj h
    rw [Nat.zero_add, Nat.add_assoc] at this; exact this
  have o29 := hN.o29
  have rowE : ∀ p, p < P → cN (fun k => ¬ ρ 67 0 0 (145 + k) < 0) (7 * p + P) = cN (fun k => ¬ ρ 67 0 0 (145 + k) < 0) (7 * (p + 1)) := fun p hp => by
    rw [show 7 * (p + 1) = (7 * p + P) + (7 - P) by omega]
    refine (cN_no _ _ _ (fun k h1 h2 => ?_)).symm
    have e : k = 7 * p + (k - 7 * p) := by omega
    rw [e, v2 p (k - 7 * p) (by omega) (by omega) (Or.inr (by omega))]; decide
  have allE : cN (fun k => ¬ ρ 67 0 0 (145 + k) < 0) (7 * P) = cN (fun k => ¬ ρ 67 0 0 (145 + k) < 0) 49 := by
    rw [show 49 = 7 * P + (49 - 7 * P) by omega]
    refine (cN_no _ _ _ (fun k h1 h2 => ?_)).symm
    have e : k = 7 * (k / 7) + k % 7 := by omega
    rw [e, v2 (k / 7) (k % 7) (by omega) (by omega) (Or.inl (by omega))]; decide
  refine ⟨nI (cN (fun k => ¬ ρ 67 0 0 (145 + k) < 0) 49), fun Q hQ => ?_, fun Q hQ => ?_⟩
  · have inn : ∀ (p : Nat) (k4 : Int32 → Int32 → sx_M → Prop), p < P → k4 (nI (cN (fun k => ¬ ρ 67 0 0 (145 + k) < 0) (7 * (p + 1)))) (nI (p + 1)) σ → ∃ f, wp_Ne_routes_b17 0 k4 Q f (nI (cN (fun k => ¬ ρ 67 0 0 (145 + k) < 0) (7 * p))) (nI p) 0 σ := fun p k4 hp h => by
      refine pn_lp_go (X := fun f a i => wp_Ne_routes_b17 0 k4 Q f a (nI p) i σ) (N := P) (g := fun d a => a + (if ¬ ρ 67 0 0 (145 + (7 * p + d)) < 0 then 1 else 0)) (fun f d a hd hx => ?_) P 0 _ (by omega) ⟨1, ?_⟩
      · show wp_Ne_routes_b17 0 k4 Q (f + 1) a (nI p) (nI d) σ
        rw [wp_Ne_routes_b17, hP.2.1.1, if_neg (nI_ge hd (by omega)), nI_clamp (n := p) (by omega), nI_clamp (n := d) (by omega)]
        refine ⟨vp_in_nI (by omega) (by decide), vp_in_nI (by omega) (by decide), ?_⟩
        unfold wp_Ne_routes_b50
        rw [nI_1]
        have hx' : wp_Ne_routes_b17 0 k4 Q f (a + (if ¬ ρ 67 0 0 (145 + (7 * p + d)) < 0 then 1 else 0)) (nI p) (nI (d + 1)) σ := hx
        rw [v1 p d hp hd] at hx'
        by_cases c : σ 29 0 p d = -2
        · rw [if_neg (by rw [c]; decide)] at hx'; rw [if_pos c]; exact hx'
        · rw [if_pos (fun z => c (((o29 p d hp hd).neg h7).mp z))] at hx'; rw [if_neg c]; exact hx'
      · show wp_Ne_routes_b17 0 k4 Q 1 (pn_lp (fun d a => a + (if ¬ ρ 67 0 0 (145 + (7 * p + d)) < 0 then 1 else 0)) P 0 (nI (cN (fun k => ¬ ρ 67 0 0 (145 + k) < 0) (7 * p)))) (nI p) (nI P) σ
        have := cN_lq (fun k => ¬ ρ 67 0 0 (145 + k) < 0) (7 * p) P 0
        rw [Nat.add_zero, rowE p hp] at this
        rw [wp_Ne_routes_b17, hP.2.1.1, if_pos (nI_le (Nat.le_refl _) (by omega)), this, nI_1]
        exact h
    have out : ∀ c p, p + c = P → ∃ f, wp_Ne_routes_b4 0 Q f (nI (cN (fun k => ¬ ρ 67 0 0 (145 + k) < 0) (7 * p))) (nI p) σ := by
      intro c
      induction c with
      | zero =>
        intro p hp
        have : p = P := by omega
        subst this
        exact ⟨1, by rw [wp_Ne_routes_b4, hP.2.1.1, if_pos (nI_le (Nat.le_refl _) (by omega)), allE]; exact hQ⟩
      | succ c ih =>
        intro p hp
        obtain ⟨f, hf⟩ := ih (p + 1) (by omega)
        refine ⟨f + 1, ?_⟩
        rw [wp_Ne_routes_b4, hP.2.1.1, if_neg (nI_ge (by omega) (by omega))]
        exact inn p _ (by omega) hf
    exact out P 0 (by omega)
  · refine pn_lp_go (X := fun f a i => wp_Mo_count_b136 Q f a i ρ θ) (N := 49) (g := fun d a => a + (if ¬ ρ 67 0 0 (145 + (0 + d)) < 0 then 1 else 0)) (fun f d a hd hx => ?_) 49 0 0 (by omega) ⟨1, ?_⟩
    · show wp_Mo_count_b136 Q (f + 1) a (nI d) ρ θ
      have e1 : (145 : Int32) + nI d = nI (145 + d) := nI_add 145 d
      rw [wp_Mo_count_b136, if_neg (show ¬ 49 ≤ nI d from nI_ge (b := 49) hd (by decide)), e1, nI_clamp (n := 145 + d) (by omega)]
      refine ⟨vp_in_nI (by omega) (by decide), ?_⟩
      unfold wp_Mo_count_b158
      rw [nI_1]
      have hx' : wp_Mo_count_b136 Q f (a + (if ¬ ρ 67 0 0 (145 + (0 + d)) < 0 then 1 else 0)) (nI (d + 1)) ρ θ := hx
      rw [Nat.zero_add] at hx'
      by_cases c : ρ 67 0 0 (145 + d) < 0
      · rw [if_neg (fun z => z c), Int32.add_zero] at hx'; rw [if_pos c]; exact hx'
      · rw [if_pos c] at hx'; rw [if_neg c]; exact hx'
    · show wp_Mo_count_b136 Q 1 (pn_lp (fun d a => a + (if ¬ ρ 67 0 0 (145 + (0 + d)) < 0 then 1 else 0)) 49 0 0) (nI 49) ρ θ
      have := cN_lq (fun k => ¬ ρ 67 0 0 (145 + k) < 0) 0 49 0
      rw [wp_Mo_count_b136, if_pos (by decide)]
      have e : pn_lp (fun d a => a + (if ¬ ρ 67 0 0 (145 + (0 + d)) < 0 then 1 else 0)) 49 0 0 = nI (cN (fun k => ¬ ρ 67 0 0 (145 + k) < 0) 49) := this
      rw [e]; exact hQ
/-- posts on -/
theorem C_postsOn (hP : pn_P P L v σ ρ) (hN : pn_N P L m σ 0 ρ 67 0) {Q : Int32 → sx_M → Prop} (hQ : Q (nI (pn_b (fun p => σ 27 0 p 0) P)) σ) : wp_Ne_postsOn 0 σ Q := by
  have h7 := hP.1.1
  unfold wp_Ne_postsOn
  refine pn_lp_go (X := fun f a i => wp_Ne_postsOn_b4 0 Q f a i σ) (N := P) (g := fun d a => if σ 27 0 d 0 = 0 then a else a ||| (1 <<< (nI d &&& 31))) (fun f d a hd hx => ?_) P 0 0 (by omega) ⟨1, ?_⟩
  · show wp_Ne_postsOn_b4 0 Q (f + 1) a (nI d) σ
    rw [wp_Ne_postsOn_b4, hP.2.1.1, if_neg (nI_ge hd (by omega)), nI_clamp (n := d) (by omega)]
    refine ⟨vp_in_nI (by omega) (by decide), ?_⟩
    unfold wp_Ne_postsOn_b35
    rw [nI_1]
    by_cases c : σ 27 0 d 0 = 0
    · simp only [if_pos c] at hx ⊢; rw [Int32.or_zero]; exact hx
    · simp only [if_neg c] at hx ⊢; exact hx
  · show wp_Ne_postsOn_b4 0 Q 1 _ (nI P) σ
    have := pn_b_lp (fun p => σ 27 0 p 0) P 0 (by omega) (fun p hp => hN.2.2.2.2.1.1 p (by omega))
    rw [Nat.zero_add] at this
    rw [wp_Ne_postsOn_b4, hP.2.1.1, if_pos (nI_le (Nat.le_refl _) (by omega))]
    have e : pn_lp (fun d a => if σ 27 0 d 0 = 0 then a else a ||| (1 <<< (nI d &&& 31))) P 0 0 = nI (pn_b (fun p => σ 27 0 p 0) P) := this
    rw [e]; exact hQ
/-- slots that hold something -/
theorem S_slots (hH : pn_H P L σ ρ) : ∃ r, (∀ Q : Int32 → sx_M → Prop, Q r σ → wp_St_slotsHolding σ Q) ∧ ∀ Q : Int32 → sx_M → sx_L → Prop, Q r ρ θ → (vp_in 0 3 ∧ (if ρ 73 0 0 (0 : Int32).toNatClampNeg = 0 then (wp_Mo_count_b198 Q 0 ρ θ) else (wp_Mo_count_b198 Q 1 ρ θ))) := by
  have i0 : vp_in 0 3 := in_I (n := 0) rfl (by decide) (by decide)
  have i1 : vp_in 1 3 := in_I (n := 1) rfl (by decide) (by decide)
  have i2 : vp_in 2 3 := in_I (n := 2) rfl (by decide) (by decide)
  obtain ⟨H, eH⟩ : ∃ H : Nat → Int32, H = fun s => if σ 39 0 0 s = 0 then 0 else 1 := ⟨_, rfl⟩
  have e73 : ∀ s, s < 3 → ρ 73 0 0 s = σ 39 0 0 s := fun s hs => (hH s hs).2.1
  refine ⟨(H 0 + H 1) + H 2, fun Q hQ => ?_, fun Q hQ => ?_⟩
  · unfold wp_St_slotsHolding
    refine pn_lp_go (X := fun f a i => wp_St_slotsHolding_b4 Q f a i σ) (N := 3) (g := fun d a => a + H d) (fun f d a hd hx => ?_) 3 0 0 rfl ⟨1, ?_⟩
    · show wp_St_slotsHolding_b4 Q (f + 1) a (nI d) σ
      rw [wp_St_slotsHolding_b4, if_neg (show ¬ 3 ≤ nI d from nI_ge (b := 3) hd (by decide)), nI_clamp (n := d) (by omega)]
      refine ⟨vp_in_nI hd (by decide), ?_⟩
      unfold wp_St_slotsHolding_b24
      rw [nI_1]
      have hx' : wp_St_slotsHolding_b4 Q f (a + H d) (nI (d + 1)) σ := hx
      rw [eH] at hx'
      by_cases c : σ 39 0 0 d = 0
      · simp only [if_pos c] at hx' ⊢; exact hx'
      · simp only [if_neg c] at hx' ⊢; exact hx'
    · show wp_St_slotsHolding_b4 Q 1 (((0 + H 0) + H 1) + H 2) (nI 3) σ
      rw [wp_St_slotsHolding_b4, if_pos (by decide), Int32.zero_add]; exact hQ
  · have g2 : ∀ a b : Int32, Q ((a + b) + H 2) ρ θ → wp_Mo_count_b212 Q a b ρ θ := fun a b h => by
      unfold wp_Mo_count_b212 wp_Mo_count_b227
      rw [show (2 : Int32).toNatClampNeg = 2 from rfl, e73 2 (by decide)]
      refine ⟨i2, ?_⟩
      rw [eH] at h
      by_cases c : σ 39 0 0 2 = 0
      · simp only [if_pos c] at h ⊢; exact h
      · simp only [if_neg c] at h ⊢; exact h
    have g1 : ∀ a : Int32, Q ((a + H 1) + H 2) ρ θ → wp_Mo_count_b198 Q a ρ θ := fun a h => by
      unfold wp_Mo_count_b198
      rw [show (1 : Int32).toNatClampNeg = 1 from rfl, e73 1 (by decide)]
      refine ⟨i1, ?_⟩
      by_cases c : σ 39 0 0 1 = 0
      · rw [if_pos c]; refine g2 _ _ ?_; rw [show H 1 = 0 by rw [eH]; exact if_pos c] at h; exact h
      · rw [if_neg c]; refine g2 _ _ ?_; rw [show H 1 = 1 by rw [eH]; exact if_neg c] at h; exact h
    rw [show (0 : Int32).toNatClampNeg = 0 from rfl, e73 0 (by decide)]
    refine ⟨i0, ?_⟩
    by_cases c : σ 39 0 0 0 = 0
    · rw [if_pos c]; refine g1 _ ?_; rw [show H 0 = 0 by rw [eH]; exact if_pos c] at hQ; exact hQ
    · rw [if_neg c]; refine g1 _ ?_; rw [show H 0 = 1 by rw [eH]; exact if_neg c] at hQ; exact hQ
/-- the greatest rank -/
theorem S_great (hP : pn_P P L v σ ρ) (hN : pn_N P L m σ 0 ρ 67 0) : ∃ r, (∀ Q : Int32 → sx_M → Prop, Q r σ → wp_Ne_greatestRank 0 σ Q) ∧ ∀ Q : Int32 → sx_M → sx_L → Prop, Q r ρ θ → ∃ f, wp_Mo_count_b253 Q f 0 0 ρ θ := by
  have h7 := hP.1.1
  obtain ⟨g, hg⟩ : ∃ g : Nat → Int32 → Int32, g = fun d a => if 9999 ≤ σ 27 0 d 2 then a else if a < σ 27 0 d 2 then σ 27 0 d 2 else a := ⟨_, rfl⟩
  refine ⟨pn_lp g P 0 0, fun Q hQ => ?_, fun Q hQ => ?_⟩
  · unfold wp_Ne_greatestRank
    refine pn_lp_go (X := fun f a i => wp_Ne_greatestRank_b4 0 Q f a i σ) (N := P) (g := g) (fun f d a hd hx => ?_) P 0 0 (by omega) ⟨1, ?_⟩
    · show wp_Ne_greatestRank_b4 0 Q (f + 1) a (nI d) σ
      rw [wp_Ne_greatestRank_b4, hP.2.1.1, if_neg (nI_ge hd (by omega)), nI_clamp (n := d) (by omega)]
      refine ⟨vp_in_nI (by omega) (by decide), ?_⟩
      unfold wp_Ne_greatestRank_b41
      rw [nI_1]
      rw [hg] at hx
      by_cases c : 9999 ≤ σ 27 0 d 2
      · simp only [if_pos c] at hx; rw [if_pos c]; exact hx
      · simp only [if_neg c] at hx; rw [if_neg c]; exact hx
    · show wp_Ne_greatestRank_b4 0 Q 1 _ (nI P) σ
      rw [wp_Ne_greatestRank_b4, hP.2.1.1, if_pos (nI_le (Nat.le_refl _) (by omega))]; exact hQ
  · refine pn_lp_go (X := fun f a i => wp_Mo_count_b253 Q f a i ρ θ) (N := P) (g := g) (fun f d a hd hx => ?_) P 0 0 (by omega) ⟨1, ?_⟩
    · show wp_Mo_count_b253 Q (f + 1) a (nI d) ρ θ
      have ev : ρ 67 0 0 (26 + 10 * d + 1) = σ 27 0 d 2 := hN.now hd (w := 1) (by decide)
      rw [wp_Mo_count_b253, hP.rP, if_neg (nI_ge hd (by omega))]
      refine ⟨hP.live.1, R_nowOf (p := d) (i := 1) rfl rfl (by omega) (by decide) ?_⟩
      rw [ev]
      unfold wp_Mo_count_b295
      rw [nI_1]
      rw [hg] at hx
      by_cases c : 9999 ≤ σ 27 0 d 2
      · simp only [if_pos c] at hx; rw [if_pos c]; exact hx
      · simp only [if_neg c] at hx; rw [if_neg c]
        refine R_nowOf (p := d) (i := 1) rfl rfl (by omega) (by decide) ?_
        rw [ev]
        by_cases c2 : a < σ 27 0 d 2
        · simp only [if_pos c2] at hx; rw [if_neg (Int32.not_le.mpr c2)]
          refine R_nowOf (p := d) (i := 1) rfl rfl (by omega) (by decide) ?_
          rw [ev]; exact hx
        · simp only [if_neg c2] at hx; rw [if_pos (Int32.not_lt.mp c2)]; exact hx
    · show wp_Mo_count_b253 Q 1 _ (nI P) ρ θ
      rw [wp_Mo_count_b253, hP.rP, if_pos (nI_le (Nat.le_refl _) (by omega))]; exact ⟨hP.live.1, hQ⟩
/-- posts that rest -/
theorem S_resting (hP : pn_P P L v σ ρ) (hN : pn_N P L m σ 0 ρ 67 0) : ∃ r, (∀ Q : Int32 → sx_M → Prop, Q r σ → wp_Ne_postsResting 0 σ Q) ∧ ∀ Q : Int32 → sx_M → sx_L → Prop, Q r ρ θ → ∃ f, wp_Mo_count_b305 Q f 0 0 ρ θ := by
  have h7 := hP.1.1
  obtain ⟨g, hg⟩ : ∃ g : Nat → Int32 → Int32, g = fun d a => if σ 27 0 d 5 ≤ 0 then a else a ||| (1 <<< (nI d &&& 31)) := ⟨_, rfl⟩
  refine ⟨pn_lp g P 0 0, fun Q hQ => ?_, fun Q hQ => ?_⟩
  · unfold wp_Ne_postsResting
    refine pn_lp_go (X := fun f a i => wp_Ne_postsResting_b4 0 Q f a i σ) (N := P) (g := g) (fun f d a hd hx => ?_) P 0 0 (by omega) ⟨1, ?_⟩
    · show wp_Ne_postsResting_b4 0 Q (f + 1) a (nI d) σ
      rw [wp_Ne_postsResting_b4, hP.2.1.1, if_neg (nI_ge hd (by omega)), nI_clamp (n := d) (by omega)]
      refine ⟨vp_in_nI (by omega) (by decide), ?_⟩
      unfold wp_Ne_postsResting_b35
      rw [nI_1]
      rw [hg] at hx
      by_cases c : σ 27 0 d 5 ≤ 0
      · simp only [if_pos c] at hx; rw [if_pos c, Int32.or_zero]; exact hx
      · simp only [if_neg c] at hx; rw [if_neg c]; exact hx
    · show wp_Ne_postsResting_b4 0 Q 1 _ (nI P) σ
      rw [wp_Ne_postsResting_b4, hP.2.1.1, if_pos (nI_le (Nat.le_refl _) (by omega))]; exact hQ
  · refine pn_lp_go (X := fun f a i => wp_Mo_count_b305 Q f a i ρ θ) (N := P) (g := g) (fun f d a hd hx => ?_) P 0 0 (by omega) ⟨1, ?_⟩
    · show wp_Mo_count_b305 Q (f + 1) a (nI d) ρ θ
      have ev : ρ 67 0 0 (26 + 10 * d + 4) = σ 27 0 d 5 := hN.now hd (w := 4) (by decide)
      rw [wp_Mo_count_b305, hP.rP, if_neg (nI_ge hd (by omega))]
      refine ⟨hP.live.1, R_nowOf (p := d) (i := 4) rfl rfl (by omega) (by decide) ?_⟩
      rw [ev]
      unfold wp_Mo_count_b333
      rw [nI_1]
      rw [hg] at hx
      by_cases c : σ 27 0 d 5 ≤ 0
      · simp only [if_pos c] at hx; rw [if_pos c]; exact hx
      · simp only [if_neg c] at hx; rw [if_neg c]; exact hx
    · show wp_Mo_count_b305 Q 1 _ (nI P) ρ θ
      rw [wp_Mo_count_b305, hP.rP, if_pos (nI_le (Nat.le_refl _) (by omega))]; exact ⟨hP.live.1, hQ⟩
/-- posts on without a parent -/
theorem S_alone (hP : pn_P P L v σ ρ) (hN : pn_N P L m σ 0 ρ 67 0) : ∃ r, (∀ Q : Int32 → sx_M → Prop, Q r σ → wp_Ne_postsAlone 0 σ Q) ∧ ∀ Q : Int32 → sx_M → sx_L → Prop, Q r ρ θ → ∃ f, wp_Mo_count_b343 Q f 0 1 ρ θ := by
  have h7 := hP.1.1
  by_cases h0 : P = 0
  · refine ⟨0, fun Q hQ => ⟨1, ?_⟩, fun Q hQ => ⟨1, ?_⟩⟩
    · rw [wp_Ne_postsAlone_b4, hP.2.1.1, if_pos (show nI P ≤ 1 by rw [h0]; decide)]; exact hQ
    · rw [wp_Mo_count_b343, hP.rP, if_pos (show nI P ≤ 1 by rw [h0]; decide)]; exact ⟨hP.live.1, hQ⟩
  obtain ⟨g, hg⟩ : ∃ g : Nat → Int32 → Int32, g = fun d a => if σ 27 0 d 0 = 0 then a else if σ 27 0 d 3 = -2 then a ||| (1 <<< (nI d &&& 31)) else a := ⟨_, rfl⟩
  refine ⟨pn_lp g (P - 1) 1 0, fun Q hQ => ?_, fun Q hQ => ?_⟩
  · unfold wp_Ne_postsAlone
    refine pn_lp_go (X := fun f a i => wp_Ne_postsAlone_b4 0 Q f a i σ) (N := P) (g := g) (fun f d a hd hx => ?_) (P - 1) 1 0 (by omega) ⟨1, ?_⟩
    · show wp_Ne_postsAlone_b4 0 Q (f + 1) a (nI d) σ
      rw [wp_Ne_postsAlone_b4, hP.2.1.1, if_neg (nI_ge hd (by omega)), nI_clamp (n := d) (by omega)]
      refine ⟨vp_in_nI (by omega) (by decide), ?_⟩
      unfold wp_Ne_postsAlone_b48 wp_Ne_postsAlone_b49
      rw [nI_1]
      rw [hg] at hx
      by_cases c : σ 27 0 d 0 = 0
      · simp only [if_pos c] at hx; rw [if_pos c, Int32.or_zero]; exact hx
      · simp only [if_neg c] at hx; rw [if_neg c]
        refine ⟨vp_in_nI (by omega) (by decide), ?_⟩
        by_cases c2 : σ 27 0 d 3 = -2
        · simp only [if_pos c2] at hx; rw [if_pos c2]; exact hx
        · simp only [if_neg c2] at hx; rw [if_neg c2, Int32.or_zero]; exact hx
    · show wp_Ne_postsAlone_b4 0 Q 1 _ (nI P) σ
      rw [wp_Ne_postsAlone_b4, hP.2.1.1, if_pos (nI_le (Nat.le_refl _) (by omega))]; exact hQ
  · refine pn_lp_go (X := fun f a i => wp_Mo_count_b343 Q f a i ρ θ) (N := P) (g := g) (fun f d a hd hx => ?_) (P - 1) 1 0 (by omega) ⟨1, ?_⟩
    · show wp_Mo_count_b343 Q (f + 1) a (nI d) ρ θ
      have ev : ρ 67 0 0 (26 + 10 * d + 2) = σ 27 0 d 3 := hN.now hd (w := 2) (by decide)
      rw [wp_Mo_count_b343, hP.rP, if_neg (nI_ge hd (by omega))]
      refine ⟨hP.live.1, R_isOn1 hP hN hd ?_⟩
      unfold wp_Mo_count_b379
      rw [nI_1]
      rw [hg] at hx
      by_cases c : σ 27 0 d 0 = 0
      · simp only [if_pos c] at hx; rw [if_pos c, if_pos rfl]; exact hx
      · simp only [if_neg c] at hx; rw [if_neg c, if_neg (by decide)]
        refine R_nowOf (p := d) (i := 2) rfl rfl (by omega) (by decide) ?_
        rw [ev]
        by_cases c2 : σ 27 0 d 3 = -2
        · simp only [if_pos c2] at hx; rw [if_neg (by rw [c2]; decide)]; exact hx
        · simp only [if_neg c2] at hx; rw [if_pos (Int32.not_lt.mp fun z => c2 (((hN.par d hd).neg h7).mp z))]; exact hx
    · show wp_Mo_count_b343 Q 1 _ (nI P) ρ θ
      rw [wp_Mo_count_b343, hP.rP, if_pos (nI_le (Nat.le_refl _) (by omega))]; exact ⟨hP.live.1, hQ⟩
/-- promise 38 -/
theorem M_count (h : pn_I σ ρ θ) (x : Int32) : pn_ok (wp_St_count x σ) (wp_Mo_count x ρ θ) := by
  obtain ⟨P, L, v, m, hP, hN, hA, hW⟩ := id h
  have h7 := hP.1.1
  obtain ⟨⟨⟨t, t1, t2, t3, t4⟩, t5⟩, ⟨u, pe, er, u1, u2, u3, u4, u5, -⟩, hH, -⟩ := id hW
  have lv := hP.live.1
  have n0 : ∀ f, f < 7 → ρ 67 0 0 f = σ 16 0 0 (f + 1) := fun f hf => by have := hN.2.1 f hf; rw [Nat.zero_add] at this; exact this
  have hm := hN.2.2.1
  have none_ : (∀ i : Nat, i < 18 → ¬ x = nI i) → pn_ok (wp_St_count x σ) (wp_Mo_count x ρ θ) := fun hb => by
    refine ⟨-1, σ, ρ, θ, h, fun Q hQ => ?_, fun Q hQ => ?_⟩
    · unfold wp_St_count
      rw [if_neg (show ¬ x = 0 from hb 0 (by decide)), if_neg (show ¬ x = 1 from hb 1 (by decide)), if_neg (show ¬ x = 2 from hb 2 (by decide)), if_neg (show ¬ x = 3 from hb 3 (by decide)), if_neg (show ¬ x = 4 from hb 4 (by decide)), if_neg (show ¬ x = 5 from hb 5 (by decide)), if_neg (show ¬ x = 6 from hb 6 (by decide)), if_neg (show ¬ x = 7 from hb 7 (by decide)), if_neg (show ¬ x = 8 from hb 8 (by decide)), if_neg (show ¬ x = 9 from hb 9 (by decide)), if_neg (show ¬ x = 10 from hb 10 (by decide)), if_neg (show ¬ x = 11 from hb 11 (by decide)), if_neg (show ¬ x = 12 from hb 12 (by decide)), if_neg (show ¬ x = 13 from hb 13 (by decide)), if_neg (show ¬ x = 14 from hb 14 (by decide)), if_neg (show ¬ x = 15 from hb 15 (by decide)), if_neg (show ¬ x = 16 from hb 16 (by decide)), if_neg (show ¬ x = 17 from hb 17 (by decide))]; exact hQ
    · unfold wp_Mo_count
      rw [if_neg (show ¬ x = 0 from hb 0 (by decide)), if_neg (show ¬ x = 1 from hb 1 (by decide)), if_neg (show ¬ x = 2 from hb 2 (by decide)), if_neg (show ¬ x = 3 from hb 3 (by decide)), if_neg (show ¬ x = 4 from hb 4 (by decide)), if_neg (show ¬ x = 5 from hb 5 (by decide)), if_neg (show ¬ x = 6 from hb 6 (by decide)), if_neg (show ¬ x = 7 from hb 7 (by decide)), if_neg (show ¬ x = 8 from hb 8 (by decide)), if_neg (show ¬ x = 9 from hb 9 (by decide)), if_neg (show ¬ x = 10 from hb 10 (by decide)), if_neg (show ¬ x = 11 from hb 11 (by decide)), if_neg (show ¬ x = 12 from hb 12 (by decide)), if_neg (show ¬ x = 13 from hb 13 (by decide)), if_neg (show ¬ x = 14 from hb 14 (by decide)), if_neg (show ¬ x = 15 from hb 15 (by decide)), if_neg (show ¬ x = 16 from hb 16 (by decide)), if_neg (show ¬ x = 17 from hb 17 (by decide))]; exact hQ
  rcases pk_ix x (n := 18) (by decide) with c | c | ⟨j, hj, rfl⟩
  · exact none_ (fun i hi z => by rw [z] at c; exact nI_pos (by omega) c)
  · exact none_ (fun i hi z => by rw [z] at c; exact nI_ge hi (by decide) c)
  · have cs : j = 0 ∨ j = 1 ∨ j = 2 ∨ j = 3 ∨ j = 4 ∨ j = 5 ∨ j = 6 ∨ j = 7 ∨ j = 8 ∨ j = 9 ∨ j = 10 ∨ j = 11 ∨ j = 12 ∨ j = 13 ∨ j = 14 ∨ j = 15 ∨ j = 16 ∨ j = 17 := by omega
    rcases cs with rfl | rfl | rfl | rfl | rfl | rfl | rfl | rfl | rfl | rfl | rfl | rfl | rfl | rfl | rfl | rfl | rfl | rfl
    · refine ⟨nI P, σ, ρ, θ, h, fun Q hQ => ?_, fun Q hQ => ?_⟩
      · unfold wp_St_count
        rw [if_pos (show nI 0 = 0 from rfl)]; exact (by rw [hP.2.1.1]; exact hQ)
      · unfold wp_Mo_count
        rw [if_pos (show nI 0 = 0 from rfl)]; exact ⟨lv, by rw [hP.rP]; exact hQ⟩
    · refine ⟨nI L, σ, ρ, θ, h, fun Q hQ => ?_, fun Q hQ => ?_⟩
      · unfold wp_St_count
        rw [if_neg (show ¬ nI 1 = 0 by decide), if_pos (show nI 1 = 1 from rfl)]; exact (by rw [hP.2.1.2.1]; exact hQ)
      · unfold wp_Mo_count
        rw [if_neg (show ¬ nI 1 = 0 by decide), if_pos (show nI 1 = 1 from rfl)]; exact ⟨lv, by rw [hP.rL]; exact hQ⟩
    · refine ⟨σ 16 0 0 1, σ, ρ, θ, h, fun Q hQ => ?_, fun Q hQ => ?_⟩
      · unfold wp_St_count
        rw [if_neg (show ¬ nI 2 = 0 by decide), if_neg (show ¬ nI 2 = 1 by decide), if_pos (show nI 2 = 2 from rfl)]; exact hQ
      · unfold wp_Mo_count
        rw [if_neg (show ¬ nI 2 = 0 by decide), if_neg (show ¬ nI 2 = 1 by decide), if_pos (show nI 2 = 2 from rfl)]; exact ⟨in_I (n := 0) rfl (by decide) (by decide), by rw [show ρ 67 0 0 (0 : Int32).toNatClampNeg = σ 16 0 0 1 from n0 0 (by decide)]; exact hQ⟩
    · refine ⟨nI m, σ, ρ, θ, h, fun Q hQ => ?_, fun Q hQ => ?_⟩
      · unfold wp_St_count
        rw [if_neg (show ¬ nI 3 = 0 by decide), if_neg (show ¬ nI 3 = 1 by decide), if_neg (show ¬ nI 3 = 2 by decide), if_pos (show nI 3 = 3 from rfl)]; exact (by rw [hm.2.2]; exact hQ)
      · unfold wp_Mo_count
        rw [if_neg (show ¬ nI 3 = 0 by decide), if_neg (show ¬ nI 3 = 1 by decide), if_neg (show ¬ nI 3 = 2 by decide), if_pos (show nI 3 = 3 from rfl)]; exact ⟨in_I (n := 7) rfl (by decide) (by decide), by rw [show ρ 67 0 0 (7 : Int32).toNatClampNeg = nI m from hm.2.1]; exact hQ⟩
    · refine ⟨σ 16 0 0 2, σ, ρ, θ, h, fun Q hQ => ?_, fun Q hQ => ?_⟩
      · unfold wp_St_count
        rw [if_neg (show ¬ nI 4 = 0 by decide), if_neg (show ¬ nI 4 = 1 by decide), if_neg (show ¬ nI 4 = 2 by decide), if_neg (show ¬ nI 4 = 3 by decide), if_pos (show nI 4 = 4 from rfl)]; exact hQ
      · unfold wp_Mo_count
        rw [if_neg (show ¬ nI 4 = 0 by decide), if_neg (show ¬ nI 4 = 1 by decide), if_neg (show ¬ nI 4 = 2 by decide), if_neg (show ¬ nI 4 = 3 by decide), if_pos (show nI 4 = 4 from rfl)]; unfold wp_Mo_count_b123; rw [show (1 + nI 4) - 4 = nI 1 from rfl]; exact ⟨in_I (n := 1) rfl (by decide) (by decide), by rw [show ρ 67 0 0 (nI 1).toNatClampNeg = σ 16 0 0 2 from n0 1 (by decide)]; exact hQ⟩
    · refine ⟨σ 16 0 0 3, σ, ρ, θ, h, fun Q hQ => ?_, fun Q hQ => ?_⟩
      · unfold wp_St_count
        rw [if_neg (show ¬ nI 5 = 0 by decide), if_neg (show ¬ nI 5 = 1 by decide), if_neg (show ¬ nI 5 = 2 by decide), if_neg (show ¬ nI 5 = 3 by decide), if_neg (show ¬ nI 5 = 4 by decide), if_pos (show nI 5 = 5 from rfl)]; exact hQ
      · unfold wp_Mo_count
        rw [if_neg (show ¬ nI 5 = 0 by decide), if_neg (show ¬ nI 5 = 1 by decide), if_neg (show ¬ nI 5 = 2 by decide), if_neg (show ¬ nI 5 = 3 by decide), if_neg (show ¬ nI 5 = 4 by decide), if_pos (show nI 5 = 5 from rfl)]; unfold wp_Mo_count_b123; rw [show (1 + nI 5) - 4 = nI 2 from rfl]; exact ⟨in_I (n := 2) rfl (by decide) (by decide), by rw [show ρ 67 0 0 (nI 2).toNatClampNeg = σ 16 0 0 3 from n0 2 (by decide)]; exact hQ⟩
    · refine ⟨σ 16 0 0 4, σ, ρ, θ, h, fun Q hQ => ?_, fun Q hQ => ?_⟩
      · unfold wp_St_count
        rw [if_neg (show ¬ nI 6 = 0 by decide), if_neg (show ¬ nI 6 = 1 by decide), if_neg (show ¬ nI 6 = 2 by decide), if_neg (show ¬ nI 6 = 3 by decide), if_neg (show ¬ nI 6 = 4 by decide), if_neg (show ¬ nI 6 = 5 by decide), if_pos (show nI 6 = 6 from rfl)]; exact hQ
      · unfold wp_Mo_count
        rw [if_neg (show ¬ nI 6 = 0 by decide), if_neg (show ¬ nI 6 = 1 by decide), if_neg (show ¬ nI 6 = 2 by decide), if_neg (show ¬ nI 6 = 3 by decide), if_neg (show ¬ nI 6 = 4 by decide), if_neg (show ¬ nI 6 = 5 by decide), if_pos (show nI 6 = 6 from rfl)]; unfold wp_Mo_count_b123; rw [show (1 + nI 6) - 4 = nI 3 from rfl]; exact ⟨in_I (n := 3) rfl (by decide) (by decide), by rw [show ρ 67 0 0 (nI 3).toNatClampNeg = σ 16 0 0 4 from n0 3 (by decide)]; exact hQ⟩
    · obtain ⟨r, wC, wR⟩ := S_routes (θ := θ) hP hN
      refine ⟨r, σ, ρ, θ, h, fun Q hQ => ?_, fun Q hQ => ?_⟩
      · unfold wp_St_count
        rw [if_neg (show ¬ nI 7 = 0 by decide), if_neg (show ¬ nI 7 = 1 by decide), if_neg (show ¬ nI 7 = 2 by decide), if_neg (show ¬ nI 7 = 3 by decide), if_neg (show ¬ nI 7 = 4 by decide), if_neg (show ¬ nI 7 = 5 by decide), if_neg (show ¬ nI 7 = 6 by decide), if_pos (show nI 7 = 7 from rfl)]; exact wC _ hQ
      · unfold wp_Mo_count
        rw [if_neg (show ¬ nI 7 = 0 by decide), if_neg (show ¬ nI 7 = 1 by decide), if_neg (show ¬ nI 7 = 2 by decide), if_neg (show ¬ nI 7 = 3 by decide), if_neg (show ¬ nI 7 = 4 by decide), if_neg (show ¬ nI 7 = 5 by decide), if_neg (show ¬ nI 7 = 6 by decide), if_pos (show nI 7 = 7 from rfl)]; exact wR _ hQ
    · refine ⟨nI t, σ, ρ, θ, h, fun Q hQ => ?_, fun Q hQ => ?_⟩
      · unfold wp_St_count
        rw [if_neg (show ¬ nI 8 = 0 by decide), if_neg (show ¬ nI 8 = 1 by decide), if_neg (show ¬ nI 8 = 2 by decide), if_neg (show ¬ nI 8 = 3 by decide), if_neg (show ¬ nI 8 = 4 by decide), if_neg (show ¬ nI 8 = 5 by decide), if_neg (show ¬ nI 8 = 6 by decide), if_neg (show ¬ nI 8 = 7 by decide), if_pos (show nI 8 = 8 from rfl)]; exact (by rw [t2]; exact hQ)
      · unfold wp_Mo_count
        rw [if_neg (show ¬ nI 8 = 0 by decide), if_neg (show ¬ nI 8 = 1 by decide), if_neg (show ¬ nI 8 = 2 by decide), if_neg (show ¬ nI 8 = 3 by decide), if_neg (show ¬ nI 8 = 4 by decide), if_neg (show ¬ nI 8 = 5 by decide), if_neg (show ¬ nI 8 = 6 by decide), if_neg (show ¬ nI 8 = 7 by decide), if_pos (show nI 8 = 8 from rfl)]; exact (by rw [t3]; exact hQ)
    · refine ⟨nI u, σ, ρ, θ, h, fun Q hQ => ?_, fun Q hQ => ?_⟩
      · unfold wp_St_count
        rw [if_neg (show ¬ nI 9 = 0 by decide), if_neg (show ¬ nI 9 = 1 by decide), if_neg (show ¬ nI 9 = 2 by decide), if_neg (show ¬ nI 9 = 3 by decide), if_neg (show ¬ nI 9 = 4 by decide), if_neg (show ¬ nI 9 = 5 by decide), if_neg (show ¬ nI 9 = 6 by decide), if_neg (show ¬ nI 9 = 7 by decide), if_neg (show ¬ nI 9 = 8 by decide), if_pos (show nI 9 = 9 from rfl)]; exact (by rw [u4]; exact hQ)
      · unfold wp_Mo_count
        rw [if_neg (show ¬ nI 9 = 0 by decide), if_neg (show ¬ nI 9 = 1 by decide), if_neg (show ¬ nI 9 = 2 by decide), if_neg (show ¬ nI 9 = 3 by decide), if_neg (show ¬ nI 9 = 4 by decide), if_neg (show ¬ nI 9 = 5 by decide), if_neg (show ¬ nI 9 = 6 by decide), if_neg (show ¬ nI 9 = 7 by decide), if_neg (show ¬ nI 9 = 8 by decide), if_pos (show nI 9 = 9 from rfl)]; exact (by rw [u5]; exact hQ)
    · refine ⟨nI (pn_b (fun p => σ 27 0 p 0) P), σ, ρ, θ, h, fun Q hQ => ?_, fun Q hQ => ?_⟩
      · unfold wp_St_count
        rw [if_neg (show ¬ nI 10 = 0 by decide), if_neg (show ¬ nI 10 = 1 by decide), if_neg (show ¬ nI 10 = 2 by decide), if_neg (show ¬ nI 10 = 3 by decide), if_neg (show ¬ nI 10 = 4 by decide), if_neg (show ¬ nI 10 = 5 by decide), if_neg (show ¬ nI 10 = 6 by decide), if_neg (show ¬ nI 10 = 7 by decide), if_neg (show ¬ nI 10 = 8 by decide), if_neg (show ¬ nI 10 = 9 by decide), if_pos (show nI 10 = 10 from rfl)]; exact C_postsOn hP hN hQ
      · unfold wp_Mo_count
        rw [if_neg (show ¬ nI 10 = 0 by decide), if_neg (show ¬ nI 10 = 1 by decide), if_neg (show ¬ nI 10 = 2 by decide), if_neg (show ¬ nI 10 = 3 by decide), if_neg (show ¬ nI 10 = 4 by decide), if_neg (show ¬ nI 10 = 5 by decide), if_neg (show ¬ nI 10 = 6 by decide), if_neg (show ¬ nI 10 = 7 by decide), if_neg (show ¬ nI 10 = 8 by decide), if_neg (show ¬ nI 10 = 9 by decide), if_pos (show nI 10 = 10 from rfl)]; exact ⟨in_I (n := 9) rfl (by decide) (by decide), by rw [show ρ 67 0 0 (9 : Int32).toNatClampNeg = nI (pn_b (fun p => σ 27 0 p 0) P) from hN.2.2.2.2.1.2]; exact hQ⟩
    · obtain ⟨r, wC, wR⟩ := S_slots (θ := θ) hH
      refine ⟨r, σ, ρ, θ, h, fun Q hQ => ?_, fun Q hQ => ?_⟩
      · unfold wp_St_count
        rw [if_neg (show ¬ nI 11 = 0 by decide), if_neg (show ¬ nI 11 = 1 by decide), if_neg (show ¬ nI 11 = 2 by decide), if_neg (show ¬ nI 11 = 3 by decide), if_neg (show ¬ nI 11 = 4 by decide), if_neg (show ¬ nI 11 = 5 by decide), if_neg (show ¬ nI 11 = 6 by decide), if_neg (show ¬ nI 11 = 7 by decide), if_neg (show ¬ nI 11 = 8 by decide), if_neg (show ¬ nI 11 = 9 by decide), if_neg (show ¬ nI 11 = 10 by decide), if_pos (show nI 11 = 11 from rfl)]; exact wC _ hQ
      · unfold wp_Mo_count
        rw [if_neg (show ¬ nI 11 = 0 by decide), if_neg (show ¬ nI 11 = 1 by decide), if_neg (show ¬ nI 11 = 2 by decide), if_neg (show ¬ nI 11 = 3 by decide), if_neg (show ¬ nI 11 = 4 by decide), if_neg (show ¬ nI 11 = 5 by decide), if_neg (show ¬ nI 11 = 6 by decide), if_neg (show ¬ nI 11 = 7 by decide), if_neg (show ¬ nI 11 = 8 by decide), if_neg (show ¬ nI 11 = 9 by decide), if_neg (show ¬ nI 11 = 10 by decide), if_pos (show nI 11 = 11 from rfl)]; exact wR _ hQ
    · refine ⟨σ 16 0 0 5, σ, ρ, θ, h, fun Q hQ => ?_, fun Q hQ => ?_⟩
      · unfold wp_St_count
        rw [if_neg (show ¬ nI 12 = 0 by decide), if_neg (show ¬ nI 12 = 1 by decide), if_neg (show ¬ nI 12 = 2 by decide), if_neg (show ¬ nI 12 = 3 by decide), if_neg (show ¬ nI 12 = 4 by decide), if_neg (show ¬ nI 12 = 5 by decide), if_neg (show ¬ nI 12 = 6 by decide), if_neg (show ¬ nI 12 = 7 by decide), if_neg (show ¬ nI 12 = 8 by decide), if_neg (show ¬ nI 12 = 9 by decide), if_neg (show ¬ nI 12 = 10 by decide), if_neg (show ¬ nI 12 = 11 by decide), if_pos (show nI 12 = 12 from rfl)]; exact hQ
      · unfold wp_Mo_count
        rw [if_neg (show ¬ nI 12 = 0 by decide), if_neg (show ¬ nI 12 = 1 by decide), if_neg (show ¬ nI 12 = 2 by decide), if_neg (show ¬ nI 12 = 3 by decide), if_neg (show ¬ nI 12 = 4 by decide), if_neg (show ¬ nI 12 = 5 by decide), if_neg (show ¬ nI 12 = 6 by decide), if_neg (show ¬ nI 12 = 7 by decide), if_neg (show ¬ nI 12 = 8 by decide), if_neg (show ¬ nI 12 = 9 by decide), if_neg (show ¬ nI 12 = 10 by decide), if_neg (show ¬ nI 12 = 11 by decide), if_pos (show nI 12 = 12 from rfl)]; exact ⟨in_I (n := 4) rfl (by decide) (by decide), by rw [show ρ 67 0 0 (4 : Int32).toNatClampNeg = σ 16 0 0 5 from n0 4 (by decide)]; exact hQ⟩
    · refine ⟨σ 16 0 0 6, σ, ρ, θ, h, fun Q hQ => ?_, fun Q hQ => ?_⟩
      · unfold wp_St_count
        rw [if_neg (show ¬ nI 13 = 0 by decide), if_neg (show ¬ nI 13 = 1 by decide), if_neg (show ¬ nI 13 = 2 by decide), if_neg (show ¬ nI 13 = 3 by decide), if_neg (show ¬ nI 13 = 4 by decide), if_neg (show ¬ nI 13 = 5 by decide), if_neg (show ¬ nI 13 = 6 by decide), if_neg (show ¬ nI 13 = 7 by decide), if_neg (show ¬ nI 13 = 8 by decide), if_neg (show ¬ nI 13 = 9 by decide), if_neg (show ¬ nI 13 = 10 by decide), if_neg (show ¬ nI 13 = 11 by decide), if_neg (show ¬ nI 13 = 12 by decide), if_pos (show nI 13 = 13 from rfl)]; exact hQ
      · unfold wp_Mo_count
        rw [if_neg (show ¬ nI 13 = 0 by decide), if_neg (show ¬ nI 13 = 1 by decide), if_neg (show ¬ nI 13 = 2 by decide), if_neg (show ¬ nI 13 = 3 by decide), if_neg (show ¬ nI 13 = 4 by decide), if_neg (show ¬ nI 13 = 5 by decide), if_neg (show ¬ nI 13 = 6 by decide), if_neg (show ¬ nI 13 = 7 by decide), if_neg (show ¬ nI 13 = 8 by decide), if_neg (show ¬ nI 13 = 9 by decide), if_neg (show ¬ nI 13 = 10 by decide), if_neg (show ¬ nI 13 = 11 by decide), if_neg (show ¬ nI 13 = 12 by decide), if_pos (show nI 13 = 13 from rfl)]; exact ⟨in_I (n := 5) rfl (by decide) (by decide), by rw [show ρ 67 0 0 (5 : Int32).toNatClampNeg = σ 16 0 0 6 from n0 5 (by decide)]; exact hQ⟩
    · refine ⟨σ 16 0 0 7, σ, ρ, θ, h, fun Q hQ => ?_, fun Q hQ => ?_⟩
      · unfold wp_St_count
        rw [if_neg (show ¬ nI 14 = 0 by decide), if_neg (show ¬ nI 14 = 1 by decide), if_neg (show ¬ nI 14 = 2 by decide), if_neg (show ¬ nI 14 = 3 by decide), if_neg (show ¬ nI 14 = 4 by decide), if_neg (show ¬ nI 14 = 5 by decide), if_neg (show ¬ nI 14 = 6 by decide), if_neg (show ¬ nI 14 = 7 by decide), if_neg (show ¬ nI 14 = 8 by decide), if_neg (show ¬ nI 14 = 9 by decide), if_neg (show ¬ nI 14 = 10 by decide), if_neg (show ¬ nI 14 = 11 by decide), if_neg (show ¬ nI 14 = 12 by decide), if_neg (show ¬ nI 14 = 13 by decide), if_pos (show nI 14 = 14 from rfl)]; exact hQ
      · unfold wp_Mo_count
        rw [if_neg (show ¬ nI 14 = 0 by decide), if_neg (show ¬ nI 14 = 1 by decide), if_neg (show ¬ nI 14 = 2 by decide), if_neg (show ¬ nI 14 = 3 by decide), if_neg (show ¬ nI 14 = 4 by decide), if_neg (show ¬ nI 14 = 5 by decide), if_neg (show ¬ nI 14 = 6 by decide), if_neg (show ¬ nI 14 = 7 by decide), if_neg (show ¬ nI 14 = 8 by decide), if_neg (show ¬ nI 14 = 9 by decide), if_neg (show ¬ nI 14 = 10 by decide), if_neg (show ¬ nI 14 = 11 by decide), if_neg (show ¬ nI 14 = 12 by decide), if_neg (show ¬ nI 14 = 13 by decide), if_pos (show nI 14 = 14 from rfl)]; exact ⟨in_I (n := 6) rfl (by decide) (by decide), by rw [show ρ 67 0 0 (6 : Int32).toNatClampNeg = σ 16 0 0 7 from n0 6 (by decide)]; exact hQ⟩
    · obtain ⟨r, wC, wR⟩ := S_great (θ := θ) hP hN
      refine ⟨r, σ, ρ, θ, h, fun Q hQ => ?_, fun Q hQ => ?_⟩
      · unfold wp_St_count
        rw [if_neg (show ¬ nI 15 = 0 by decide), if_neg (show ¬ nI 15 = 1 by decide), if_neg (show ¬ nI 15 = 2 by decide), if_neg (show ¬ nI 15 = 3 by decide), if_neg (show ¬ nI 15 = 4 by decide), if_neg (show ¬ nI 15 = 5 by decide), if_neg (show ¬ nI 15 = 6 by decide), if_neg (show ¬ nI 15 = 7 by decide), if_neg (show ¬ nI 15 = 8 by decide), if_neg (show ¬ nI 15 = 9 by decide), if_neg (show ¬ nI 15 = 10 by decide), if_neg (show ¬ nI 15 = 11 by decide), if_neg (show ¬ nI 15 = 12 by decide), if_neg (show ¬ nI 15 = 13 by decide), if_neg (show ¬ nI 15 = 14 by decide), if_pos (show nI 15 = 15 from rfl)]; exact wC _ hQ
      · unfold wp_Mo_count
        rw [if_neg (show ¬ nI 15 = 0 by decide), if_neg (show ¬ nI 15 = 1 by decide), if_neg (show ¬ nI 15 = 2 by decide), if_neg (show ¬ nI 15 = 3 by decide), if_neg (show ¬ nI 15 = 4 by decide), if_neg (show ¬ nI 15 = 5 by decide), if_neg (show ¬ nI 15 = 6 by decide), if_neg (show ¬ nI 15 = 7 by decide), if_neg (show ¬ nI 15 = 8 by decide), if_neg (show ¬ nI 15 = 9 by decide), if_neg (show ¬ nI 15 = 10 by decide), if_neg (show ¬ nI 15 = 11 by decide), if_neg (show ¬ nI 15 = 12 by decide), if_neg (show ¬ nI 15 = 13 by decide), if_neg (show ¬ nI 15 = 14 by decide), if_pos (show nI 15 = 15 from rfl)]; exact wR _ hQ
    · obtain ⟨r, wC, wR⟩ := S_resting (θ := θ) hP hN
      refine ⟨r, σ, ρ, θ, h, fun Q hQ => ?_, fun Q hQ => ?_⟩
      · unfold wp_St_count
        rw [if_neg (show ¬ nI 16 = 0 by decide), if_neg (show ¬ nI 16 = 1 by decide), if_neg (show ¬ nI 16 = 2 by decide), if_neg (show ¬ nI 16 = 3 by decide), if_neg (show ¬ nI 16 = 4 by decide), if_neg (show ¬ nI 16 = 5 by decide), if_neg (show ¬ nI 16 = 6 by decide), if_neg (show ¬ nI 16 = 7 by decide), if_neg (show ¬ nI 16 = 8 by decide), if_neg (show ¬ nI 16 = 9 by decide), if_neg (show ¬ nI 16 = 10 by decide), if_neg (show ¬ nI 16 = 11 by decide), if_neg (show ¬ nI 16 = 12 by decide), if_neg (show ¬ nI 16 = 13 by decide), if_neg (show ¬ nI 16 = 14 by decide), if_neg (show ¬ nI 16 = 15 by decide), if_pos (show nI 16 = 16 from rfl)]; exact wC _ hQ
      · unfold wp_Mo_count
        rw [if_neg (show ¬ nI 16 = 0 by decide), if_neg (show ¬ nI 16 = 1 by decide), if_neg (show ¬ nI 16 = 2 by decide), if_neg (show ¬ nI 16 = 3 by decide), if_neg (show ¬ nI 16 = 4 by decide), if_neg (show ¬ nI 16 = 5 by decide), if_neg (show ¬ nI 16 = 6 by decide), if_neg (show ¬ nI 16 = 7 by decide), if_neg (show ¬ nI 16 = 8 by decide), if_neg (show ¬ nI 16 = 9 by decide), if_neg (show ¬ nI 16 = 10 by decide), if_neg (show ¬ nI 16 = 11 by decide), if_neg (show ¬ nI 16 = 12 by decide), if_neg (show ¬ nI 16 = 13 by decide), if_neg (show ¬ nI 16 = 14 by decide), if_neg (show ¬ nI 16 = 15 by decide), if_pos (show nI 16 = 16 from rfl)]; exact wR _ hQ
    · obtain ⟨r, wC, wR⟩ := S_alone (θ := θ) hP hN
      refine ⟨r, σ, ρ, θ, h, fun Q hQ => ?_, fun Q hQ => ?_⟩
      · unfold wp_St_count
        rw [if_neg (show ¬ nI 17 = 0 by decide), if_neg (show ¬ nI 17 = 1 by decide), if_neg (show ¬ nI 17 = 2 by decide), if_neg (show ¬ nI 17 = 3 by decide), if_neg (show ¬ nI 17 = 4 by decide), if_neg (show ¬ nI 17 = 5 by decide), if_neg (show ¬ nI 17 = 6 by decide), if_neg (show ¬ nI 17 = 7 by decide), if_neg (show ¬ nI 17 = 8 by decide), if_neg (show ¬ nI 17 = 9 by decide), if_neg (show ¬ nI 17 = 10 by decide), if_neg (show ¬ nI 17 = 11 by decide), if_neg (show ¬ nI 17 = 12 by decide), if_neg (show ¬ nI 17 = 13 by decide), if_neg (show ¬ nI 17 = 14 by decide), if_neg (show ¬ nI 17 = 15 by decide), if_neg (show ¬ nI 17 = 16 by decide), if_pos (show nI 17 = 17 from rfl)]; exact wC _ hQ
      · unfold wp_Mo_count
        rw [if_neg (show ¬ nI 17 = 0 by decide), if_neg (show ¬ nI 17 = 1 by decide), if_neg (show ¬ nI 17 = 2 by decide), if_neg (show ¬ nI 17 = 3 by decide), if_neg (show ¬ nI 17 = 4 by decide), if_neg (show ¬ nI 17 = 5 by decide), if_neg (show ¬ nI 17 = 6 by decide), if_neg (show ¬ nI 17 = 7 by decide), if_neg (show ¬ nI 17 = 8 by decide), if_neg (show ¬ nI 17 = 9 by decide), if_neg (show ¬ nI 17 = 10 by decide), if_neg (show ¬ nI 17 = 11 by decide), if_neg (show ¬ nI 17 = 12 by decide), if_neg (show ¬ nI 17 = 13 by decide), if_neg (show ¬ nI 17 = 14 by decide), if_neg (show ¬ nI 17 = 15 by decide), if_neg (show ¬ nI 17 = 16 by decide), if_pos (show nI 17 = 17 from rfl)]; exact wR _ hQ
end COUNT
