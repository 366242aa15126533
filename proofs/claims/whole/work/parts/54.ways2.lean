section WAYSB
variable {P L v m n e : Nat} {σ σ2 ρ ρ2 : sx_M} {θ : sx_L}
/-- promise 20 -/
theorem M_circle (h : pn_I σ ρ θ) : pn_ok (wp_St_circle σ) (wp_Mo_circle ρ θ) := by
  obtain ⟨P, L, v, m, hP, hN, hA, hW⟩ := id h
  have h7 := hP.1.1
  have hr : ∀ p, p < P → ρ 67 0 0 (26 + 10 * p + 2) = σ 27 0 p 3 := fun p hp => hN.now hp (w := 2) (by decide)
  obtain ⟨g, hg⟩ : ∃ g : Nat → Int32 → Int32, g = fun d a => if pn_ct σ 0 d 7 (σ 27 0 d 3) = 0 then a else a ||| (1 <<< (nI d &&& 31)) := ⟨_, rfl⟩
  refine ⟨pn_lp g P 0 0, σ, ρ, θ, h, fun Q hQ => ?_, fun Q hQ => ?_⟩
  · unfold wp_St_circle
    refine pn_lp_go (X := fun f a i => wp_St_circle_b4 Q f a i σ) (N := P) (g := g) (fun f d a hd hx => ?_) P 0 0 (by omega) ⟨1, ?_⟩
    · show wp_St_circle_b4 Q (f + 1) a (nI d) σ
      rw [wp_St_circle_b4, hP.2.1.1, if_neg (nI_ge hd (by omega))]
      refine C_comes h7 hP.2.1.1 hN.par hd ?_
      unfold wp_St_circle_b33
      rw [nI_1]
      rw [hg] at hx
      by_cases c : pn_ct σ 0 d 7 (σ 27 0 d 3) = 0
      · simp only [if_pos c] at hx ⊢; exact hx
      · simp only [if_neg c] at hx ⊢; exact hx
    · show wp_St_circle_b4 Q 1 _ (nI P) σ
      rw [wp_St_circle_b4, hP.2.1.1, if_pos (nI_le (Nat.le_refl _) (by omega))]; exact hQ
  · unfold wp_Mo_circle
    refine pn_lp_go (X := fun f a i => wp_Mo_circle_b4 Q f a i ρ θ) (N := P) (g := g) (fun f d a hd hx => ?_) P 0 0 (by omega) ⟨1, ?_⟩
    · show wp_Mo_circle_b4 Q (f + 1) a (nI d) ρ θ
      rw [wp_Mo_circle_b4, hP.rP, if_neg (nI_ge hd (by omega))]
      refine ⟨hP.live.1, R_does h7 hN.par hr hd ?_⟩
      unfold wp_Mo_circle_b32
      rw [nI_1]
      rw [hg] at hx
      by_cases c : pn_ct σ 0 d 7 (σ 27 0 d 3) = 0
      · simp only [if_pos c] at hx ⊢; exact hx
      · simp only [if_neg c] at hx ⊢; exact hx
    · show wp_Mo_circle_b4 Q 1 _ (nI P) ρ θ
      rw [wp_Mo_circle_b4, hP.rP, if_pos (nI_le (Nat.le_refl _) (by omega))]; exact ⟨hP.live.1, hQ⟩
/-- promise 21 -/
theorem M_below (h : pn_I σ ρ θ) (x : Int32) : pn_ok (wp_St_below x σ) (wp_Mo_below x ρ θ) := by
  obtain ⟨P, L, v, m, hP, hN, hA, hW⟩ := id h
  have h7 := hP.1.1
  have hr : ∀ p, p < P → ρ 67 0 0 (26 + 10 * p + 2) = σ 27 0 p 3 := fun p hp => hN.now hp (w := 2) (by decide)
  have none_ : (x < 0 ∨ nI P ≤ x) → pn_ok (wp_St_below x σ) (wp_Mo_below x ρ θ) := fun c => by
    refine ⟨-1, σ, ρ, θ, h, fun Q hQ => ?_, fun Q hQ => ?_⟩
    · unfold wp_St_below
      refine C_isPost0 hP c ?_
      rw [if_pos rfl]; exact hQ
    · unfold wp_Mo_below
      refine R_isPost0 hP c ?_
      rw [if_pos rfl]; exact hQ
  rcases pk_ix x (n := P) (by omega) with c | c | ⟨j, hj, rfl⟩
  · exact none_ (Or.inl c)
  · exact none_ (Or.inr c)
  · obtain ⟨g, hg⟩ : ∃ g : Nat → Int32 → Int32, g = fun d a => if nI d = nI j then a else if pn_ct σ 0 j 7 (σ 27 0 d 3) = 0 then a else a ||| (1 <<< (nI d &&& 31)) := ⟨_, rfl⟩
    refine ⟨pn_lp g P 0 0, σ, ρ, θ, h, fun Q hQ => ?_, fun Q hQ => ?_⟩
    · unfold wp_St_below
      refine C_isPost1 hP rfl hj ?_
      rw [if_neg (by decide)]
      refine pn_lp_go (X := fun f a i => wp_St_below_b17 Q f (nI j) a i σ) (N := P) (g := g) (fun f d a hd hx => ?_) P 0 0 (by omega) ⟨1, ?_⟩
      · show wp_St_below_b17 Q (f + 1) (nI j) a (nI d) σ
        rw [wp_St_below_b17, hP.2.1.1, if_neg (nI_ge hd (by omega))]
        unfold wp_St_below_b51
        rw [nI_1]
        rw [hg] at hx
        by_cases c0 : nI d = nI j
        · simp only [if_pos c0] at hx; rw [if_pos c0]; exact hx
        · simp only [if_neg c0] at hx; rw [if_neg c0]
          refine C_comes h7 hP.2.1.1 hN.par hd ?_
          by_cases c : pn_ct σ 0 j 7 (σ 27 0 d 3) = 0
          · simp only [if_pos c] at hx ⊢; exact hx
          · simp only [if_neg c] at hx ⊢; exact hx
      · show wp_St_below_b17 Q 1 (nI j) _ (nI P) σ
        rw [wp_St_below_b17, hP.2.1.1, if_pos (nI_le (Nat.le_refl _) (by omega))]; exact hQ
    · unfold wp_Mo_below
      refine R_isPost1 hP rfl hj ?_
      rw [if_neg (by decide)]
      refine pn_lp_go (X := fun f a i => wp_Mo_below_b14 Q f (nI j) a i ρ θ) (N := P) (g := g) (fun f d a hd hx => ?_) P 0 0 (by omega) ⟨1, ?_⟩
      · show wp_Mo_below_b14 Q (f + 1) (nI j) a (nI d) ρ θ
        rw [wp_Mo_below_b14, hP.rP, if_neg (nI_ge hd (by omega))]
        refine ⟨hP.live.1, ?_⟩
        unfold wp_Mo_below_b47
        rw [nI_1]
        rw [hg] at hx
        by_cases c0 : nI d = nI j
        · simp only [if_pos c0] at hx; rw [if_pos c0]; exact hx
        · simp only [if_neg c0] at hx; rw [if_neg c0]
          refine R_does h7 hN.par hr hd ?_
          by_cases c : pn_ct σ 0 j 7 (σ 27 0 d 3) = 0
          · simp only [if_pos c] at hx ⊢; exact hx
          · simp only [if_neg c] at hx ⊢; exact hx
      · show wp_Mo_below_b14 Q 1 (nI j) _ (nI P) ρ θ
        rw [wp_Mo_below_b14, hP.rP, if_pos (nI_le (Nat.le_refl _) (by omega))]; exact ⟨hP.live.1, hQ⟩
/-- the way up: the end of it -/
def pn_wy (σ : sx_M) : Nat → Int32 → Int32
  | 0, x => x
  | k + 1, x => if x = -2 then -2 else pn_wy σ k (σ 27 0 x.toNatClampNeg 3)
/-- promise 22 -/
theorem M_way (h : pn_I σ ρ θ) (x y : Int32) : pn_ok (wp_St_way x y σ) (wp_Mo_way x y ρ θ) := by
  obtain ⟨P, L, v, m, hP, hN, hA, hW⟩ := id h
  have h7 := hP.1.1
  have none_ : (x < 0 ∨ nI P ≤ x) → pn_ok (wp_St_way x y σ) (wp_Mo_way x y ρ θ) := fun c => by
    refine ⟨-1, σ, ρ, θ, h, fun Q hQ => ?_, fun Q hQ => ?_⟩
    · unfold wp_St_way wp_St_way_b21
      refine C_isPost0 hP c ?_
      rw [if_pos rfl]; exact hQ
    · unfold wp_Mo_way wp_Mo_way_b18
      refine R_isPost0 hP c ?_
      rw [if_pos rfl]; exact hQ
  rcases pk_ix x (n := P) (by omega) with c | c | ⟨j, hj, rfl⟩
  · exact none_ (Or.inl c)
  · exact none_ (Or.inr c)
  · by_cases cy : y < 0 ∨ 20 < y
    · refine ⟨-1, σ, ρ, θ, h, fun Q hQ => ?_, fun Q hQ => ?_⟩
      · unfold wp_St_way wp_St_way_b21
        refine C_isPost1 hP rfl hj ?_
        rw [if_neg (by decide)]
        by_cases c0 : y < 0
        · rw [if_pos c0]; exact hQ
        · rw [if_neg c0, if_neg (Int32.not_le.mpr (cy.resolve_left c0))]; exact hQ
      · unfold wp_Mo_way wp_Mo_way_b18
        refine R_isPost1 hP rfl hj ?_
        rw [if_neg (by decide)]
        refine R_in0 cy ?_
        rw [if_pos rfl]; exact hQ
    · have y0 : ¬ y < 0 := fun z => cy (Or.inl z)
      have y2 : ¬ 20 < y := fun z => cy (Or.inr z)
      obtain ⟨w, hw, rfl⟩ := nI_of y0
      have w20 : w ≤ 20 := Nat.le_of_not_lt fun z => y2 (nI_lt (a := 20) z hw)
      have lp : ∀ (k d q : Nat), d + k = w → q < P → ∃ r, (∀ Q : Int32 → sx_M → Prop, Q r σ → ∃ f, wp_St_way_b28 Q f (nI w) (nI q) (nI d) σ) ∧ (∀ Q : Int32 → sx_M → sx_L → Prop, Q r ρ θ → ∃ f, wp_Mo_way_b25 Q f (nI w) (nI q) (nI d) ρ θ) := by
        intro k
        induction k with
        | zero =>
          intro d q hd hq
          refine ⟨nI q, fun Q hQ => ⟨1, ?_⟩, fun Q hQ => ⟨1, ?_⟩⟩
          · rw [wp_St_way_b28, if_pos (nI_le (by omega) (by omega))]; exact hQ
          · rw [wp_Mo_way_b25, if_pos (nI_le (by omega) (by omega))]
            unfold wp_Mo_way_b48 wp_Mo_way_b57
            rw [if_pos (nI_pos' (by omega))]; exact hQ
        | succ k ih =>
          intro d q hd hq
          have po := hN.par q hq
          have cq : (nI q).toNatClampNeg = q := nI_clamp (by omega)
          have nd : ¬ nI w ≤ nI d := nI_ge (by omega) (by omega)
          by_cases c3 : σ 27 0 q 3 = -2
          · refine ⟨-1, fun Q hQ => ⟨1, ?_⟩, fun Q hQ => ⟨2, ?_⟩⟩
            · rw [wp_St_way_b28, if_neg nd, cq]
              refine ⟨vp_in_nI (by omega) (by decide), C_isPost0 hP (Or.inl (by rw [c3]; decide)) ?_⟩
              rw [if_pos (rfl : (0 : Int32) = 0)]; exact hQ
            · rw [wp_Mo_way_b25, if_neg nd, if_neg (nI_pos (by omega))]
              refine R_nowOf (i := 2) rfl rfl (by omega) (by decide) ?_
              rw [hN.now hq (w := 2) (by decide), c3, wp_Mo_way_b25]
              unfold wp_Mo_way_b48 wp_Mo_way_b57
              rw [if_neg (show ¬ (0 : Int32) ≤ -2 by decide), if_pos (show (-2 : Int32) < 0 by decide), ite_self]; exact hQ
          · obtain ⟨r, hr, er⟩ := po.resolve_left c3
            obtain ⟨a, wC, wR⟩ := ih (d + 1) r (by omega) hr
            refine ⟨a, fun Q hQ => ?_, fun Q hQ => ?_⟩
            · obtain ⟨f, hf⟩ := wC Q hQ
              refine ⟨f + 1, ?_⟩
              rw [wp_St_way_b28, if_neg nd, cq]
              refine ⟨vp_in_nI (by omega) (by decide), C_isPost1 hP er hr ?_⟩
              rw [if_neg (show ¬ (1 : Int32) = 0 by decide), er, nI_1]; exact hf
            · obtain ⟨f, hf⟩ := wR Q hQ
              refine ⟨f + 1, ?_⟩
              rw [wp_Mo_way_b25, if_neg nd, if_neg (nI_pos (by omega)), nI_1]
              refine R_nowOf (i := 2) rfl rfl (by omega) (by decide) ?_
              rw [hN.now hq (w := 2) (by decide), er]; exact hf
      obtain ⟨r, wC, wR⟩ := lp w 0 j (by omega) hj
      refine ⟨r, σ, ρ, θ, h, fun Q hQ => ?_, fun Q hQ => ?_⟩
      · unfold wp_St_way
        refine C_isPost1 hP rfl hj ?_
        rw [if_neg (by decide), if_neg y0, if_pos (Int32.not_lt.mp y2)]
        exact wC Q hQ
      · unfold wp_Mo_way
        refine R_isPost1 hP rfl hj ?_
        rw [if_neg (by decide)]
        refine R_in1 y0 y2 ?_
        rw [if_neg (by decide)]
        exact wR Q hQ
end WAYSB
