/-- a loop that gathers -/
def pn_lp (g : Nat → Int32 → Int32) : Nat → Nat → Int32 → Int32
  | 0, _, a => a
  | c + 1, d, a => pn_lp g c (d + 1) (g d a)
theorem pn_lp_go {X : Nat → Int32 → Int32 → Prop} {g : Nat → Int32 → Int32} {N : Nat} (hs : ∀ f d a, d < N → X f (g d a) (nI (d + 1)) → X (f + 1) a (nI d)) : ∀ (c d : Nat) (a : Int32), d + c = N → (∃ f, X f (pn_lp g c d a) (nI N)) → ∃ f, X f a (nI d)
  | 0, d, a, hd, h => by
    have : d = N := by omega
    subst this
    exact h
  | c + 1, d, a, hd, h => by
    obtain ⟨f, hf⟩ := pn_lp_go hs c (d + 1) (g d a) (by omega) h
    exact ⟨f + 1, hs f d a (by omega) hf⟩
theorem pn_lp_add (g : Nat → Int32 → Int32) : ∀ (c1 c2 d : Nat) (a : Int32), pn_lp g (c1 + c2) d a = pn_lp g c2 (d + c1) (pn_lp g c1 d a)
  | 0, c2, d, a => by rw [Nat.zero_add]; rfl
  | c1 + 1, c2, d, a => by
    rw [show c1 + 1 + c2 = (c1 + c2) + 1 by omega]
    show pn_lp g (c1 + c2) (d + 1) (g d a) = pn_lp g c2 (d + (c1 + 1)) (pn_lp g c1 (d + 1) (g d a))
    rw [pn_lp_add g c1 c2 (d + 1) (g d a), show d + 1 + c1 = d + (c1 + 1) by omega]
theorem pn_lp_eq {g h : Nat → Int32 → Int32} {N : Nat} (I : Int32 → Prop) (he : ∀ d a, d < N → I a → g d a = h d a ∧ I (h d a)) : ∀ (c d : Nat) (a : Int32), d + c ≤ N → I a → pn_lp g c d a = pn_lp h c d a
  | 0, _, _, _, _ => rfl
  | c + 1, d, a, hd, hI => by
    show pn_lp g c (d + 1) (g d a) = pn_lp h c (d + 1) (h d a)
    rw [(he d a (by omega) hI).1]
    exact pn_lp_eq I he c (d + 1) (h d a) (by omega) (he d a (by omega) hI).2
section LOOKS
variable {P L v m n : Nat} {σ σ2 ρ ρ2 : sx_M} {θ : sx_L}
/-- no two posts -/
def pn_bad (P : Nat) (x y : Int32) : Prop := (x < 0 ∨ nI P ≤ x) ∨ ((∃ a, a < P ∧ x = nI a) ∧ (y < 0 ∨ nI P ≤ y)) ∨ ∃ a, a < P ∧ x = nI a ∧ y = nI a
theorem two_ix (h7 : P ≤ 7) (x y : Int32) : pn_bad P x y ∨ ∃ a b, a < P ∧ b < P ∧ a ≠ b ∧ x = nI a ∧ y = nI b := by
  rcases pk_ix x (n := P) (by omega) with c | c | ⟨a, ha, ea⟩
  · exact Or.inl (Or.inl (Or.inl c))
  · exact Or.inl (Or.inl (Or.inr c))
  · rcases pk_ix y (n := P) (by omega) with c | c | ⟨b, hb, eb⟩
    · exact Or.inl (Or.inr (Or.inl ⟨⟨a, ha, ea⟩, Or.inl c⟩))
    · exact Or.inl (Or.inr (Or.inl ⟨⟨a, ha, ea⟩, Or.inr c⟩))
    · by_cases e : a = b
      · exact Or.inl (Or.inr (Or.inr ⟨a, ha, ea, by rw [eb, e]⟩))
      · exact Or.inr ⟨a, b, ha, hb, e, ea, eb⟩
theorem C_two0 (hP : pn_P P L v σ ρ) {x y : Int32} (h : pn_bad P x y) {Q : Int32 → sx_M → Prop} (hQ : Q 0 σ) : wp_St_areTwoPosts x y σ Q := by
  unfold wp_St_areTwoPosts wp_St_areTwoPosts_b31 wp_St_areTwoPosts_b32
  rcases h with c | ⟨⟨a, ha, ea⟩, c⟩ | ⟨a, ha, ea, eb⟩
  · refine C_isPost0 hP c ?_
    rw [if_pos rfl]; exact ⟨Or.inl rfl, hQ⟩
  · refine C_isPost1 hP ea ha ?_
    rw [if_neg (by decide)]
    refine C_isPost0 hP c ?_
    rw [if_pos rfl]; exact ⟨Or.inl rfl, hQ⟩
  · refine C_isPost1 hP ea ha ?_
    rw [if_neg (by decide)]
    refine C_isPost1 hP eb ha ?_
    rw [if_neg (by decide), if_pos (ea.trans eb.symm)]; exact ⟨Or.inl rfl, hQ⟩
theorem C_two1 (hP : pn_P P L v σ ρ) {a b : Nat} (ha : a < P) (hb : b < P) (hn : a ≠ b) {Q : Int32 → sx_M → Prop} (hQ : Q 1 σ) : wp_St_areTwoPosts (nI a) (nI b) σ Q := by
  have h7 := hP.1.1
  unfold wp_St_areTwoPosts wp_St_areTwoPosts_b32
  refine C_isPost1 hP rfl ha ?_
  rw [if_neg (by decide)]
  refine C_isPost1 hP rfl hb ?_
  rw [if_neg (by decide), if_neg (fun z => hn ((nI_eq (by omega) (by omega)).mp z))]; exact ⟨Or.inr rfl, hQ⟩
theorem R_two0 (hP : pn_P P L v σ ρ) {x y : Int32} (h : pn_bad P x y) {A B : sx_M → sx_L → Prop} (hQ : A ρ θ) : wp_Mo_isPost x ρ θ (fun r σ τ => if r = 0 then A σ τ else wp_Mo_isPost y σ τ (fun r σ τ => if r = 0 then A σ τ else if x = y then A σ τ else B σ τ)) := by
  rcases h with c | ⟨⟨a, ha, ea⟩, c⟩ | ⟨a, ha, ea, eb⟩
  · refine R_isPost0 hP c ?_
    rw [if_pos rfl]; exact hQ
  · refine R_isPost1 hP ea ha ?_
    rw [if_neg (by decide)]
    refine R_isPost0 hP c ?_
    rw [if_pos rfl]; exact hQ
  · refine R_isPost1 hP ea ha ?_
    rw [if_neg (by decide)]
    refine R_isPost1 hP eb ha ?_
    rw [if_neg (by decide), if_pos (ea.trans eb.symm)]; exact hQ
theorem R_two1 (hP : pn_P P L v σ ρ) {a b : Nat} (ha : a < P) (hb : b < P) (hn : a ≠ b) {A B : sx_M → sx_L → Prop} (hQ : B ρ θ) : wp_Mo_isPost (nI a) ρ θ (fun r σ τ => if r = 0 then A σ τ else wp_Mo_isPost (nI b) σ τ (fun r σ τ => if r = 0 then A σ τ else if nI a = nI b then A σ τ else B σ τ)) := by
  have h7 := hP.1.1
  refine R_isPost1 hP rfl ha ?_
  rw [if_neg (by decide)]
  refine R_isPost1 hP rfl hb ?_
  rw [if_neg (by decide), if_neg (fun z => hn ((nI_eq (by omega) (by omega)).mp z))]; exact hQ
theorem R_nowOf {x w : Int32} {Q : Int32 → sx_M → sx_L → Prop} {p i : Nat} (hx : x = nI p) (hw : w = nI i) (hp : p < 7) (hi : i < 10) (h : Q (ρ 67 0 0 (26 + 10 * p + i)) ρ θ) : wp_Mo_nowOf x w ρ θ Q := by
  unfold wp_Mo_nowOf
  have e : ((26 : Int32) + (10 * x)) + w = nI (26 + 10 * p + i) := by rw [hx, hw]; exact ix_2 26 10 p i
  rw [e, nI_clamp (n := 26 + 10 * p + i) (by omega)]
  exact ⟨vp_in_nI (by omega) (by decide), h⟩
theorem pn_N.now (hN : pn_N P L m σ 0 ρ 67 0) {p w : Nat} (hp : p < P) (hw : w < 10) : ρ 67 0 0 (26 + 10 * p + w) = σ 27 0 p (w + 1) := by
  have := hN.2.2.2.2.2.2.1 p hp w hw
  rw [Nat.zero_add] at this; exact this
/-- promise 5 -/
theorem M_place (h : pn_I σ ρ θ) : pn_ok (wp_St_place σ) (wp_Mo_place ρ θ) := by
  obtain ⟨P, L, v, m, hP, hN, hA, hW⟩ := id h
  refine ⟨σ 3 0 0 4, σ, ρ, θ, h, fun Q hQ => hQ, fun Q hQ => ?_⟩
  unfold wp_Mo_place
  rw [← hW.1.2]; exact hQ
/-- promise 13 -/
theorem M_post (h : pn_I σ ρ θ) (x y : Int32) : pn_ok (wp_St_post x y σ) (wp_Mo_post x y ρ θ) := by
  obtain ⟨P, L, v, m, hP, hN, hA, hW⟩ := id h
  have h7 := hP.1.1
  have none_ : (x < 0 ∨ nI P ≤ x) → pn_ok (wp_St_post x y σ) (wp_Mo_post x y ρ θ) := fun c => by
    refine ⟨-1, σ, ρ, θ, h, fun Q hQ => ?_, fun Q hQ => ?_⟩
    · unfold wp_St_post wp_St_post_b28
      refine C_isPost0 hP c ?_
      rw [if_pos rfl]; exact hQ
    · unfold wp_Mo_post wp_Mo_post_b18
      refine R_isPost0 hP c ?_
      rw [if_pos rfl]; exact hQ
  rcases pk_ix x (n := P) (by omega) with c | c | ⟨j, hj, rfl⟩
  · exact none_ (Or.inl c)
  · exact none_ (Or.inr c)
  · have cj : (nI j).toNatClampNeg = j := nI_clamp (by omega)
    have ij : vp_in (nI j) 7 := vp_in_nI (by omega) (by decide)
    rcases pk_ix y (n := 11) (by decide) with c | c | ⟨w, hw, rfl⟩
    · have hb : ∀ i : Nat, i < 11 → ¬ y = nI i := fun i hi z => by rw [z] at c; exact nI_pos (by omega) c
      refine ⟨-1, σ, ρ, θ, h, fun Q hQ => ?_, fun Q hQ => ?_⟩
      · unfold wp_St_post wp_St_post_b28 wp_Po_tell
        refine C_isPost1 hP rfl hj ?_
        rw [if_neg (by decide), if_neg (show ¬ y = 0 from hb 0 (by decide)), if_neg (show ¬ y = 1 from hb 1 (by decide)), if_neg (show ¬ y = 2 from hb 2 (by decide)), if_neg (show ¬ y = 3 from hb 3 (by decide)), if_neg (show ¬ y = 4 from hb 4 (by decide)), if_neg (show ¬ y = 5 from hb 5 (by decide)), if_neg (show ¬ y = 6 from hb 6 (by decide)), if_neg (show ¬ y = 7 from hb 7 (by decide)), if_neg (show ¬ y = 8 from hb 8 (by decide)), if_neg (show ¬ y = 9 from hb 9 (by decide)), if_neg (show ¬ y = 10 from hb 10 (by decide))]
        exact ⟨ij, hQ⟩
      · unfold wp_Mo_post wp_Mo_post_b18
        refine R_isPost1 hP rfl hj ?_
        rw [if_neg (by decide)]
        refine R_in0 (Or.inl c) ?_
        rw [if_pos rfl]; exact hQ
    · have hb : ∀ i : Nat, i < 11 → ¬ y = nI i := fun i hi z => by rw [z] at c; exact nI_ge (by omega) (by decide) c
      refine ⟨-1, σ, ρ, θ, h, fun Q hQ => ?_, fun Q hQ => ?_⟩
      · unfold wp_St_post wp_St_post_b28 wp_Po_tell
        refine C_isPost1 hP rfl hj ?_
        rw [if_neg (by decide), if_neg (show ¬ y = 0 from hb 0 (by decide)), if_neg (show ¬ y = 1 from hb 1 (by decide)), if_neg (show ¬ y = 2 from hb 2 (by decide)), if_neg (show ¬ y = 3 from hb 3 (by decide)), if_neg (show ¬ y = 4 from hb 4 (by decide)), if_neg (show ¬ y = 5 from hb 5 (by decide)), if_neg (show ¬ y = 6 from hb 6 (by decide)), if_neg (show ¬ y = 7 from hb 7 (by decide)), if_neg (show ¬ y = 8 from hb 8 (by decide)), if_neg (show ¬ y = 9 from hb 9 (by decide)), if_neg (show ¬ y = 10 from hb 10 (by decide))]
        exact ⟨ij, hQ⟩
      · unfold wp_Mo_post wp_Mo_post_b18
        refine R_isPost1 hP rfl hj ?_
        rw [if_neg (by decide)]
        refine R_in0 ?_ ?_
        · by_cases c0 : y < 0
          · exact Or.inl c0
          · exact Or.inr (le_lt (N := 10) (by decide) c0 c)
        · rw [if_pos rfl]; exact hQ
    · have zo := hN.2.2.2.2.1.1 j hj
      refine ⟨σ 27 0 j w, σ, ρ, θ, h, fun Q hQ => ?_, fun Q hQ => ?_⟩
      · unfold wp_St_post wp_St_post_b28
        refine C_isPost1 hP rfl hj ?_
        rw [if_neg (by decide), cj]
        refine ⟨ij, ?_⟩
        unfold wp_Po_tell wp_Po_tell_b72
        rcases (show w = 0 ∨ w = 1 ∨ w = 2 ∨ w = 3 ∨ w = 4 ∨ w = 5 ∨ w = 6 ∨ w = 7 ∨ w = 8 ∨ w = 9 ∨ w = 10 by omega) with rfl | rfl | rfl | rfl | rfl | rfl | rfl | rfl | rfl | rfl | rfl
        · rw [if_pos (by decide)]
          rcases zo with z | z
          · rw [if_pos z]; rw [z] at hQ; exact hQ
          · rw [if_neg (by rw [z]; decide)]; rw [z] at hQ; exact hQ
        · exact hQ
        · exact hQ
        · exact hQ
        · exact hQ
        · exact hQ
        · exact hQ
        · exact hQ
        · exact hQ
        · exact hQ
        · exact hQ
      · unfold wp_Mo_post wp_Mo_post_b46
        refine R_isPost1 hP rfl hj ?_
        rw [if_neg (by decide)]
        refine R_in1 (nI_pos (by omega)) (show ¬ 10 < nI w from nI_nlt (a := 10) (by omega) (by decide)) ?_
        rw [if_neg (by decide)]
        by_cases c0 : w = 0
        · subst c0
          rw [if_pos (by decide), show (9 : Int32).toNatClampNeg = 9 from rfl, R_onb hN hj]
          exact ⟨in_I (n := 9) rfl (by decide) (by decide), hQ⟩
        · rw [if_neg (nI_ne0 (by omega) (by omega)), show nI w - 1 = nI (w - 1) from pk_sub (b := 1) (by omega)]
          refine R_nowOf rfl rfl (by omega) (by omega) ?_
          rw [hN.now hj (by omega), show w - 1 + 1 = w by omega]; exact hQ
/-- promise 14 -/
theorem M_heard (h : pn_I σ ρ θ) (x y : Int32) : pn_ok (wp_St_heard x y σ) (wp_Mo_heard x y ρ θ) := by
  obtain ⟨P, L, v, m, hP, hN, hA, hW⟩ := id h
  have h7 := hP.1.1
  rcases two_ix h7 x y with c | ⟨a, b, ha, hb, hn, rfl, rfl⟩
  · refine ⟨-1, σ, ρ, θ, h, fun Q hQ => ?_, fun Q hQ => ?_⟩
    · unfold wp_St_heard wp_St_heard_b27
      refine C_two0 hP c ?_
      rw [if_pos rfl]; exact hQ
    · unfold wp_Mo_heard wp_Mo_heard_b38 wp_Mo_heard_b39
      exact R_two0 hP c hQ
  · refine ⟨σ 28 0 a b, σ, ρ, θ, h, fun Q hQ => ?_, fun Q hQ => ?_⟩
    · unfold wp_St_heard wp_St_heard_b27
      refine C_two1 hP ha hb hn ?_
      rw [if_neg (by decide), nI_clamp (n := a) (by omega), nI_clamp (n := b) (by omega)]
      exact ⟨vp_in_nI (by omega) (by decide), vp_in_nI (by omega) (by decide), hQ⟩
    · unfold wp_Mo_heard wp_Mo_heard_b39
      refine R_two1 hP ha hb hn ?_
      have e : ((96 : Int32) + (7 * nI a)) + nI b = nI (96 + 7 * a + b) := ix_2 96 7 a b
      have := (hN.2.2.2.2.2.2.2.1 a b ha hb).1
      rw [Nat.zero_add] at this
      rw [e, nI_clamp (n := 96 + 7 * a + b) (by omega), this]
      exact ⟨vp_in_nI (by omega) (by decide), hQ⟩
/-- promise 15 -/
theorem M_route (h : pn_I σ ρ θ) (x y z : Int32) : pn_ok (wp_St_route x y z σ) (wp_Mo_route x y z ρ θ) := by
  obtain ⟨P, L, v, m, hP, hN, hA, hW⟩ := id h
  have h7 := hP.1.1
  rcases two_ix h7 x y with c | ⟨a, b, ha, hb, hn, rfl, rfl⟩
  · refine ⟨-1, σ, ρ, θ, h, fun Q hQ => ?_, fun Q hQ => ?_⟩
    · unfold wp_St_route wp_St_route_b18
      refine C_two0 hP c ?_
      rw [if_pos rfl]; exact hQ
    · unfold wp_Mo_route wp_Mo_route_b30
      exact R_two0 hP c hQ
  · by_cases cz : z < 0 ∨ 1 < z
    · refine ⟨-1, σ, ρ, θ, h, fun Q hQ => ?_, fun Q hQ => ?_⟩
      · unfold wp_St_route wp_St_route_b18
        refine C_two1 hP ha hb hn ?_
        rw [if_neg (by decide)]
        by_cases c0 : z < 0
        · rw [if_pos c0]; exact hQ
        · rw [if_neg c0, if_neg (Int32.not_le.mpr (cz.resolve_left c0))]; exact hQ
      · unfold wp_Mo_route wp_Mo_route_b30
        refine R_two1 hP ha hb hn ?_
        refine R_in0 cz ?_
        rw [if_pos rfl]; exact hQ
    · have z0 : ¬ z < 0 := fun w => cz (Or.inl w)
      have z1 : ¬ 1 < z := fun w => cz (Or.inr w)
      have z2 : z ≤ 1 := Int32.not_lt.mp z1
      have ia : vp_in (nI a) 7 := vp_in_nI (by omega) (by decide)
      have ib : vp_in (nI b) 7 := vp_in_nI (by omega) (by decide)
      have ca : (nI a).toNatClampNeg = a := nI_clamp (by omega)
      have cb : (nI b).toNatClampNeg = b := nI_clamp (by omega)
      have e7 : (7 : Int32) * nI a + nI b = nI (7 * a + b) := by rw [show (7 : Int32) * nI a = nI (7 * a) from pk_mul 7 a, nI_add]
      have e1 : (145 : Int32) + ((7 * nI a) + nI b) = nI (145 + 7 * a + b) := by rw [e7, show (145 : Int32) + nI (7 * a + b) = nI (145 + (7 * a + b)) from nI_add 145 _]; congr 1; omega
      have e2 : (194 : Int32) + ((7 * nI a) + nI b) = nI (194 + 7 * a + b) := by rw [e7, show (194 : Int32) + nI (7 * a + b) = nI (194 + (7 * a + b)) from nI_add 194 _]; congr 1; omega
      have c1 := cl_I e1 (by omega)
      have c2 := cl_I e2 (by omega)
      have i1 : vp_in ((145 : Int32) + ((7 * nI a) + nI b)) 643 := in_I e1 (by omega) (by decide)
      have i2 : vp_in ((194 : Int32) + ((7 * nI a) + nI b)) 643 := in_I e2 (by omega) (by decide)
      obtain ⟨-, r1, r2⟩ := hN.2.2.2.2.2.2.2.1 a b ha hb
      rw [Nat.zero_add] at r1 r2
      have po := (hN.2.2.2.2.2.2.2.2.2.2.2.1 a b ha hb).2
      by_cases cr : σ 29 0 a b = -2
      · refine ⟨-2, σ, ρ, θ, h, fun Q hQ => ?_, fun Q hQ => ?_⟩
        · unfold wp_St_route
          refine C_two1 hP ha hb hn ?_
          rw [if_neg (by decide), if_neg z0, if_pos z2, ca, cb, if_pos cr]
          exact ⟨ia, ib, hQ⟩
        · unfold wp_Mo_route wp_Mo_route_b88
          refine R_two1 hP ha hb hn ?_
          refine R_in1 z0 z1 ?_
          rw [if_neg (by decide), c1, r1, cr, if_neg (by decide)]
          exact ⟨i1, hQ⟩
      · have ge0 : 0 ≤ σ 29 0 a b := Int32.not_lt.mp (fun w => cr ((po.neg h7).mp w))
        by_cases c3 : z = 0
        · refine ⟨σ 29 0 a b, σ, ρ, θ, h, fun Q hQ => ?_, fun Q hQ => ?_⟩
          · unfold wp_St_route wp_St_route_b67
            refine C_two1 hP ha hb hn ?_
            rw [if_neg (by decide), if_neg z0, if_pos z2, ca, cb, if_neg cr, if_pos c3]
            exact ⟨ia, ib, ib, hQ⟩
          · unfold wp_Mo_route wp_Mo_route_b88
            refine R_two1 hP ha hb hn ?_
            refine R_in1 z0 z1 ?_
            rw [if_neg (by decide), c1, r1, if_pos ge0, if_pos c3]
            exact ⟨i1, i1, hQ⟩
        · refine ⟨σ 30 0 a b, σ, ρ, θ, h, fun Q hQ => ?_, fun Q hQ => ?_⟩
          · unfold wp_St_route wp_St_route_b67
            refine C_two1 hP ha hb hn ?_
            rw [if_neg (by decide), if_neg z0, if_pos z2, ca, cb, if_neg cr, if_neg c3]
            exact ⟨ia, ib, ib, hQ⟩
          · unfold wp_Mo_route wp_Mo_route_b88
            refine R_two1 hP ha hb hn ?_
            refine R_in1 z0 z1 ?_
            rw [if_neg (by decide), c1, c2, r1, if_pos ge0, if_neg c3, r2 cr]
            exact ⟨i1, i2, hQ⟩
/-- promise 16 -/
theorem M_link (h : pn_I σ ρ θ) (x y : Int32) : pn_ok (wp_St_link x y σ) (wp_Mo_link x y ρ θ) := by
  obtain ⟨P, L, v, m, hP, hN, hA, hW⟩ := id h
  have h16 := hP.1.2.1
  have hv := hP.1.2.2
  have none_ : (x < 0 ∨ nI L ≤ x) → pn_ok (wp_St_link x y σ) (wp_Mo_link x y ρ θ) := fun c => by
    refine ⟨-1, σ, ρ, θ, h, fun Q hQ => ?_, fun Q hQ => ?_⟩
    · unfold wp_St_link
      refine C_isLink0 hP c ?_
      rw [if_pos rfl]; exact hQ
    · unfold wp_Mo_link
      refine R_isLink0 hP c ?_
      rw [if_pos rfl]; exact hQ
  rcases pk_ix x (n := L) (by omega) with c | c | ⟨j, hj, rfl⟩
  · exact none_ (Or.inl c)
  · exact none_ (Or.inr c)
  · have cj : (nI j).toNatClampNeg = j := nI_clamp (by omega)
    have ij : vp_in (nI j) 16 := vp_in_nI (by omega) (by decide)
    have e16 : (16 : Int32) * nI v + nI j = nI (16 * v + j) := by rw [show (16 : Int32) * nI v = nI (16 * v) from pk_mul 16 v, nI_add]
    have e10 : (10 : Int32) + nI j = nI (10 + j) := nI_add 10 j
    have c10 := cl_I e10 (by omega)
    have i10 : vp_in (10 + nI j) 643 := in_I e10 (by omega) (by decide)
    have c16 := cl_I e16 (by omega)
    have i16 : vp_in (16 * nI v + nI j) 32 := in_I e16 (by omega) (by decide)
    have lv : ρ 50 0 0 17 = nI v := hP.2.1.2.2.1
    obtain ⟨l1, l2, l3, l4, l5⟩ := hP.2.2.2.2.2.2.2 j hj
    have v10 : ρ 67 0 0 (10 + j) = σ 19 0 0 j := by
      have := (hN.2.2.2.2.2.1 j hj).1
      rw [Nat.zero_add] at this; exact this
    refine ⟨if y = 0 then σ 9 0 0 j else if y = 1 then σ 10 0 0 j else if y = 2 then σ 19 0 0 j else if y = 3 then σ 18 0 0 j else if y = 4 then pn_st σ 0 j else -1, σ, ρ, θ, h, fun Q hQ => ?_, fun Q hQ => ?_⟩
    · unfold wp_St_link
      refine C_isLink1 hP rfl hj ?_
      rw [if_neg (by decide), cj]
      by_cases c0 : y = 0
      · rw [if_pos c0] at hQ ⊢; exact ⟨ij, hQ⟩
      rw [if_neg c0] at hQ ⊢
      by_cases c1 : y = 1
      · rw [if_pos c1] at hQ ⊢; exact ⟨ij, hQ⟩
      rw [if_neg c1] at hQ ⊢
      by_cases c2 : y = 2
      · rw [if_pos c2] at hQ ⊢; exact ⟨ij, hQ⟩
      rw [if_neg c2] at hQ ⊢
      by_cases c3 : y = 3
      · rw [if_pos c3] at hQ ⊢; exact ⟨ij, hQ⟩
      rw [if_neg c3] at hQ ⊢
      by_cases c4 : y = 4
      · rw [if_pos c4] at hQ ⊢; exact C_step hP rfl hj hQ
      rw [if_neg c4] at hQ ⊢; exact hQ
    · unfold wp_Mo_link wp_Mo_link_b125
      refine R_isLink1 hP rfl hj ?_
      rw [if_neg (by decide), lv, c16, c10, l1, l2, v10, show (8 : Int32).toNatClampNeg = 8 from rfl, R_up hN hj]
      by_cases c0 : y = 0
      · rw [if_pos c0] at hQ ⊢; exact ⟨i16, hQ⟩
      rw [if_neg c0] at hQ ⊢
      by_cases c1 : y = 1
      · rw [if_pos c1] at hQ ⊢; exact ⟨i16, hQ⟩
      rw [if_neg c1] at hQ ⊢
      by_cases c2 : y = 2
      · rw [if_pos c2] at hQ ⊢; exact ⟨i10, hQ⟩
      rw [if_neg c2] at hQ ⊢
      by_cases c3 : y = 3
      · rw [if_pos c3] at hQ ⊢; exact ⟨in_I (n := 8) rfl (by decide) (by decide), hQ⟩
      rw [if_neg c3] at hQ ⊢
      by_cases c4 : y = 4
      · rw [if_pos c4] at hQ ⊢
        unfold pn_st at hQ
        rw [nI_clamp (n := v) (by omega), hP.2.2.1.2]
        refine ⟨vp_in_nI hv (by decide), ?_⟩
        by_cases c5 : σ 8 0 0 7 = 0
        · rw [if_pos c5] at hQ ⊢; exact hQ
        · rw [if_neg c5] at hQ ⊢; exact ⟨i10, hQ⟩
      rw [if_neg c4] at hQ ⊢; exact hQ
/-- promise 17 -/
theorem M_neighbours (h : pn_I σ ρ θ) (x : Int32) : pn_ok (wp_St_neighbours x σ) (wp_Mo_neighbours x ρ θ) := by
  obtain ⟨P, L, v, m, hP, hN, hA, hW⟩ := id h
  have h7 := hP.1.1
  have none_ : (x < 0 ∨ nI P ≤ x) → pn_ok (wp_St_neighbours x σ) (wp_Mo_neighbours x ρ θ) := fun c => by
    refine ⟨-1, σ, ρ, θ, h, fun Q hQ => ?_, fun Q hQ => ?_⟩
    · unfold wp_St_neighbours
      refine C_isPost0 hP c ?_
      rw [if_pos rfl]; exact hQ
    · unfold wp_Mo_neighbours
      refine R_isPost0 hP c ?_
      rw [if_pos rfl]; exact hQ
  rcases pk_ix x (n := P) (by omega) with c | c | ⟨j, hj, rfl⟩
  · exact none_ (Or.inl c)
  · exact none_ (Or.inr c)
  · obtain ⟨ρ1, T1, q1, w1⟩ := R_copies hP hN hW
    obtain ⟨g, hg⟩ : ∃ g : Nat → Int32 → Int32, g = fun d a => if pn_nb σ 0 j d = 0 then a else a ||| (1 <<< (nI d &&& 31)) := ⟨_, rfl⟩
    refine ⟨pn_lp g P 0 0, σ, ρ1, θ, h.look pn_qc.rf q1, fun Q hQ => ?_, fun Q hQ => ?_⟩
    · unfold wp_St_neighbours
      refine C_isPost1 hP rfl hj ?_
      rw [if_neg (by decide)]
      refine pn_lp_go (X := fun f a i => wp_St_neighbours_b17 Q f (nI j) a i σ) (N := P) (g := g) (fun f d a hd hx => ?_) P 0 0 (by omega) ⟨1, ?_⟩
      · show wp_St_neighbours_b17 Q (f + 1) (nI j) a (nI d) σ
        rw [wp_St_neighbours_b17, hP.2.1.1, if_neg (nI_ge hd (by omega))]
        refine C_near hP rfl rfl hj hd ?_
        unfold wp_St_neighbours_b46
        rw [nI_1]
        rw [hg] at hx
        by_cases c : pn_nb σ 0 j d = 0
        · simp only [if_pos c] at hx ⊢; exact hx
        · simp only [if_neg c] at hx ⊢; exact hx
      · show wp_St_neighbours_b17 Q 1 (nI j) _ (nI P) σ
        rw [wp_St_neighbours_b17, hP.2.1.1, if_pos (nI_le (Nat.le_refl _) (by omega))]; exact hQ
    · unfold wp_Mo_neighbours
      refine R_isPost1 hP rfl hj ?_
      rw [if_neg (by decide)]
      refine w1 _ ?_
      refine pn_lp_go (X := fun f a i => wp_Mo_neighbours_b18 Q f (nI j) a i ρ1 θ) (N := P) (g := g) (fun f d a hd hx => ?_) P 0 0 (by omega) ⟨1, ?_⟩
      · show wp_Mo_neighbours_b18 Q (f + 1) (nI j) a (nI d) ρ1 θ
        rw [wp_Mo_neighbours_b18, T1.2.1.rP, if_neg (nI_ge hd (by omega))]
        refine ⟨T1.2.1.live.1, R_near T1.2.1 T1.2.2.1 rfl rfl hj hd ?_⟩
        unfold wp_Mo_neighbours_b46
        rw [nI_1]
        rw [hg] at hx
        by_cases c : pn_nb σ 0 j d = 0
        · simp only [if_pos c] at hx ⊢; exact hx
        · simp only [if_neg c] at hx ⊢; exact hx
      · show wp_Mo_neighbours_b18 Q 1 (nI j) _ (nI P) ρ1 θ
        rw [wp_Mo_neighbours_b18, T1.2.1.rP, if_pos (nI_le (Nat.le_refl _) (by omega))]; exact ⟨T1.2.1.live.1, hQ⟩
end LOOKS
