section SETR
variable {P L m : Nat} {σ σ2 ρ : sx_M} {n k b : Nat}
theorem pn_N.setR (h : pn_N P L m σ n ρ k b) {p0 j0 : Nat} (hp0 : p0 < P) (hj0 : j0 < P) {x y : Int32} (hx : pn_o P x) (hC : ∀ q p, ¬ q = 29 → ¬ q = 30 → σ2 q n p = σ q n p) (h29 : ∀ p j, σ2 29 n p j = if p = p0 ∧ j = j0 then x else σ 29 n p j) (h30 : ∀ p j, ¬ (p = p0 ∧ j = j0) → σ2 30 n p j = σ 30 n p j) (hy : ¬ x = -2 → σ2 30 n p0 j0 = y) : pn_N P L m σ2 n (sx_u (sx_u ρ k 0 0 (b + 145 + 7 * p0 + j0) x) k 0 0 (b + 194 + 7 * p0 + j0) y) k b := by
  obtain ⟨a0, a1, a2, a3, a4, a5, a6, a7, a8, a9, a10, a11, a12⟩ := h
  obtain ⟨hP, hL⟩ := a0
  have hR : ∀ j, ¬ j = b + 145 + 7 * p0 + j0 → ¬ j = b + 194 + 7 * p0 + j0 → sx_u (sx_u ρ k 0 0 (b + 145 + 7 * p0 + j0) x) k 0 0 (b + 194 + 7 * p0 + j0) y k 0 0 j = ρ k 0 0 j := fun j h1 h2 => by rw [sx_u_at, if_neg (fun z => h2 z.2.2.2), sx_u_at, if_neg (fun z => h1 z.2.2.2)]
  have hRx : sx_u (sx_u ρ k 0 0 (b + 145 + 7 * p0 + j0) x) k 0 0 (b + 194 + 7 * p0 + j0) y k 0 0 (b + 145 + 7 * p0 + j0) = x := by rw [sx_u_at, if_neg (by omega), sx_u_at, if_pos ⟨rfl, rfl, rfl, rfl⟩]
  have hRy : sx_u (sx_u ρ k 0 0 (b + 145 + 7 * p0 + j0) x) k 0 0 (b + 194 + 7 * p0 + j0) y k 0 0 (b + 194 + 7 * p0 + j0) = y := by rw [sx_u_at, if_pos ⟨rfl, rfl, rfl, rfl⟩]
  have e27 : ∀ p, σ2 27 n p = σ 27 n p := fun p => hC 27 p (by decide) (by decide)
  refine ⟨⟨hP, hL⟩, fun f hf => ?_, ⟨a2.1, ?_, ?_⟩, ⟨fun l hl => ?_, ?_⟩, ⟨fun p hp => ?_, ?_⟩, fun l hl => ?_, fun p hp w hw => ?_, fun p j hp hj => ?_, fun p j hp hj q => ?_, fun i hi => ?_, fun p hp => ?_, fun p j hp hj => ?_, fun q => ?_⟩
  · rw [hR _ (by omega) (by omega), hC 16 0 (by decide) (by decide)]; exact a1 f hf
  · rw [hR _ (by omega) (by omega)]; exact a2.2.1
  · rw [hC 20 0 (by decide) (by decide)]; exact a2.2.2
  · rw [hC 18 0 (by decide) (by decide)]; exact a3.1 l hl
  · rw [hC 18 0 (by decide) (by decide), hR _ (by omega) (by omega)]; exact a3.2
  · rw [e27]; exact a4.1 p hp
  · rw [hR _ (by omega) (by omega), show (fun p => σ2 27 n p 0) = fun p => σ 27 n p 0 from funext fun p => by rw [e27]]; exact a4.2
  · rw [hC 19 0 (by decide) (by decide), hR _ (by omega) (by omega)]; exact a5 l hl
  · rw [e27, hR _ (by omega) (by omega)]; exact a6 p hp w hw
  · rw [hC 28 p (by decide) (by decide), hR (b + 96 + 7 * p + j) (by omega) (by omega)]
    refine ⟨(a7 p j hp hj).1, ?_⟩
    rw [h29]
    by_cases e : p = p0 ∧ j = j0
    · obtain ⟨rfl, rfl⟩ := e
      rw [if_pos ⟨rfl, rfl⟩, hRx, hRy]
      exact ⟨rfl, fun z => (hy z).symm⟩
    · rw [if_neg e, h30 p j e, hR _ (by omega) (by omega), hR _ (by omega) (by omega)]
      exact (a7 p j hp hj).2
  · rw [hR _ (by omega) (by omega)]; exact a8 p j hp hj q
  · rw [hC 21 0 (by decide) (by decide), hC 22 0 (by decide) (by decide), hC 23 0 (by decide) (by decide), hC 24 0 (by decide) (by decide), hC 25 0 (by decide) (by decide), hC 26 0 (by decide) (by decide), hR _ (by omega) (by omega), hR _ (by omega) (by omega)]; exact a9 i hi
  · rw [e27]; exact a10 p hp
  · rw [hC 28 p (by decide) (by decide), h29]
    refine ⟨(a11 p j hp hj).1, ?_⟩
    by_cases e : p = p0 ∧ j = j0
    · rw [if_pos e]; exact hx
    · rw [if_neg e]; exact (a11 p j hp hj).2
  · rw [e27]; exact a12 q
end SETR
section COME
variable {P L v m e : Nat} {σ σ2 ρ : sx_M} {θ : sx_L}
theorem pn_T.setR (hT : pn_T P L v m e σ ρ) {p0 j0 : Nat} (hp0 : p0 < P) (hj0 : j0 < P) {x y : Int32} (hx : pn_o P x) (hf : pn_f e σ σ2) (hC : ∀ q p, ¬ q = 29 → ¬ q = 30 → σ2 q e p = σ q e p) (h29 : ∀ p j, σ2 29 e p j = if p = p0 ∧ j = j0 then x else σ 29 e p j) (h30 : ∀ p j, ¬ (p = p0 ∧ j = j0) → σ2 30 e p j = σ 30 e p j) (hy : ¬ x = -2 → σ2 30 e p0 j0 = y) : pn_T P L v m e σ2 (sx_u (sx_u ρ 68 0 0 (145 + 7 * p0 + j0) x) 68 0 0 (194 + 7 * p0 + j0) y) := by
  obtain ⟨he, hP, hN, hs⟩ := hT
  have g1 : pn_g ρ (sx_u (sx_u ρ 68 0 0 (145 + 7 * p0 + j0) x) 68 0 0 (194 + 7 * p0 + j0) y) := (pn_g.rf.u rfl).u rfl
  have h := hN.setR hp0 hj0 hx hC h29 h30 hy
  rw [Nat.zero_add, Nat.zero_add] at h
  exact ⟨he, hP.mv hf g1, h, by rw [hf.1 31 e 0 (by omega), g1 50 0 0 (by omega)]; exact hs⟩
/-- drowned: 1 or 0 -/
def pn_dr (σ : sx_M) (e a b : Nat) : Int32 := if σ 14 0 0 7 ≤ pn_lot ((σ 14 0 0 8) + (σ 31 e 0 3)) (((1000000 + (64 * (σ 16 e 0 1))) + (8 * nI a)) + nI b) 100 then 0 else 1
theorem C_drown {a b : Nat} {Q : Int32 → sx_M → Prop} (h : Q (pn_dr σ e a b) σ) : wp_En_isDrowned e (nI a) (nI b) σ Q := by
  unfold wp_En_isDrowned wp_En_isDrowned_b46
  refine C_lot (by decide) ?_
  refine ⟨in_I (n := 7) rfl (by decide) (by decide), ?_⟩
  unfold pn_dr at h
  show if σ 14 0 0 7 ≤ _ then _ else _
  by_cases c : σ 14 0 0 7 ≤ pn_lot ((σ 14 0 0 8) + (σ 31 e 0 3)) (((1000000 + (64 * (σ 16 e 0 1))) + (8 * nI a)) + nI b) 100
  · rw [if_pos c] at h ⊢; exact ⟨Or.inl rfl, h⟩
  · rw [if_neg c] at h ⊢; exact ⟨Or.inr rfl, h⟩
/-- lost, on both sides -/
theorem R_lost (hT : pn_T P L v m e σ ρ) {a b : Nat} (ha : a < P) (hb : b < P) {Q : Int32 → sx_M → sx_L → Prop} (h0 : ¬ pn_nb σ e a b = 0 → pn_dr σ e a b = 0 → Q 0 ρ θ) (h1 : (pn_nb σ e a b = 0 ∨ ¬ pn_dr σ e a b = 0) → Q 1 (sx_u ρ 68 0 0 5 (ρ 68 0 0 5 + 1)) θ) : wp_Mo_isLost (nI a) (nI b) ρ θ Q := by
  have i5 : vp_in 5 643 := in_I (n := 5) rfl (by decide) (by decide)
  have lost : (pn_nb σ e a b = 0 ∨ ¬ pn_dr σ e a b = 0) → wp_Mo_isLost_b44 Q ρ θ := by
    intro h
    unfold wp_Mo_isLost_b44 wp_Mo_isLost_b49 wp_Mo_isLost_b64
    rw [if_neg (by decide)]
    exact ⟨i5, i5, fun _ q => by subst q; exact ⟨Or.inr rfl, h1 h⟩⟩
  unfold wp_Mo_isLost
  refine R_near hT.2.1 hT.2.2.1 rfl rfl ha hb ?_
  by_cases c : pn_nb σ e a b = 0
  · rw [if_pos c]; exact lost (Or.inl c)
  · rw [if_neg c]
    refine ⟨in_I (n := 0) rfl (by decide) (by decide), ?_⟩
    refine R_lotOf hT.2.1 (by decide) ?_
    refine R_setting hT.2.1 (i := 7) rfl (by decide) ?_
    rw [hT.tick, ← hT.2.2.2]
    by_cases c2 : σ 14 0 0 7 ≤ pn_lot ((σ 14 0 0 8) + (σ 31 e 0 3)) (((1000000 + (64 * (σ 16 e 0 1))) + (8 * nI a)) + nI b) 100
    · rw [if_pos c2]
      unfold wp_Mo_isLost_b49 wp_Mo_isLost_b64
      rw [if_pos rfl]
      exact ⟨Or.inl rfl, h0 c (by unfold pn_dr; rw [if_pos c2])⟩
    · rw [if_neg c2]
      exact lost (Or.inr (by unfold pn_dr; rw [if_neg c2]; decide))
/-- the counter of the lost -/
theorem pn_T.lost (hT : pn_T P L v m e σ ρ) (hZ : pn_Z P σ e (fun _ => False)) : pn_T P L v m e (sx_u σ 16 e 0 6 (σ 16 e 0 6 + 1)) (sx_u ρ 68 0 0 5 (ρ 68 0 0 5 + 1)) ∧ pn_f e σ (sx_u σ 16 e 0 6 (σ 16 e 0 6 + 1)) ∧ pn_g ρ (sx_u ρ 68 0 0 5 (ρ 68 0 0 5 + 1)) ∧ pn_Z P (sx_u σ 16 e 0 6 (σ 16 e 0 6 + 1)) e (fun _ => False) := by
  have f1 : pn_f e σ (sx_u σ 16 e 0 6 (σ 16 e 0 6 + 1)) := pn_f.rf.u ⟨by omega, rfl⟩
  exact ⟨hT.cnt (f := 5) (by decide), f1, pn_g.rf.u rfl, hZ.mv0 f1 (fun q p' h => sx_u_row _ _ _ _ _ _ (by omega)) (fun p' j _ => by rw [sx_u_row _ _ _ _ _ _ (by omega)])⟩
theorem w0_dec : ∀ f, f < 7 → ∀ u, u < 100 → nI (4 * f + 65536 * u) &&& 3 = 0 ∧ (nI (4 * f + 65536 * u) >>> (2 &&& 31)) &&& 7 = nI f ∧ nI (4 * f + 65536 * u) >>> (16 &&& 31) = nI u := by decide +kernel
theorem w1_d0 : ∀ s, s < 3 → ∀ f, f < 7 → ∀ t, t < 7 → ∀ d, d < 7 → ∀ j, j < 12 → nI (s + 4 * f + 32 * t + 256 * d + 2048 * (j + 1)) &&& 3 = nI s := by decide +kernel
theorem w1_d1 : ∀ s, s < 3 → ∀ f, f < 7 → ∀ t, t < 7 → ∀ d, d < 7 → ∀ j, j < 12 → (nI (s + 4 * f + 32 * t + 256 * d + 2048 * (j + 1)) >>> (2 &&& 31)) &&& 7 = nI f := by decide +kernel
theorem w1_d2 : ∀ s, s < 3 → ∀ f, f < 7 → ∀ t, t < 7 → ∀ d, d < 7 → ∀ j, j < 12 → (nI (s + 4 * f + 32 * t + 256 * d + 2048 * (j + 1)) >>> (5 &&& 31)) &&& 7 = nI t := by decide +kernel
theorem w1_d3 : ∀ s, s < 3 → ∀ f, f < 7 → ∀ t, t < 7 → ∀ d, d < 7 → ∀ j, j < 12 → (nI (s + 4 * f + 32 * t + 256 * d + 2048 * (j + 1)) >>> (8 &&& 31)) &&& 7 = nI d := by decide +kernel
theorem w1_d4 : ∀ s, s < 3 → ∀ f, f < 7 → ∀ t, t < 7 → ∀ d, d < 7 → ∀ j, j < 12 → (nI (s + 4 * f + 32 * t + 256 * d + 2048 * (j + 1)) >>> (11 &&& 31)) &&& 15 = nI (j + 1) := by decide +kernel
/-- a word comes: REACH, GONE -/
theorem S_comes (hT : pn_T P L v m e σ ρ) (hZ : pn_Z P σ e (fun _ => False)) {s f t d j i : Nat} (hs1 : 1 ≤ s) (hs2 : s ≤ 2) (hf : f < P) (ht : t < P) (hd : d < P) (hj : j ≤ 11) (hi : i < 200) {x : Int32} (m1 : σ 21 (25 + e) 0 i = nI s) (m2 : σ 22 (25 + e) 0 i = nI f) (m3 : σ 23 (25 + e) 0 i = nI t) (m4 : σ 24 (25 + e) 0 i = nI d) (m5 : σ 25 (25 + e) 0 i = x) (m6 : σ 26 (25 + e) 0 i = nI j) :
    ∃ m2 σ2 ρ2, pn_T P L v m2 e σ2 ρ2 ∧ pn_f e σ σ2 ∧ pn_g ρ ρ2 ∧ pn_Z P σ2 e (fun _ => False) ∧ (∀ Q : sx_M → Prop, Q σ2 → wp_En_wordComes e (nI i) σ Q) ∧ (∀ Q : sx_M → sx_L → Prop, Q ρ2 θ → wp_Mo_isLost (nI f) (nI t) ρ θ (fun r12 ρ12 θ12 => if r12 = 0 then wp_Mo_learns (nI t) (nI f) (nI s) (nI d) (nI (j + 1)) x ρ12 θ12 Q else Q ρ12 θ12)) := by
  have h7 := hT.p7
  have he := hT.1
  have ii : vp_in (nI i) 200 := vp_in_nI hi (by decide)
  have ci : (nI i).toNatClampNeg = i := nI_clamp (by omega)
  have it : vp_in (nI t) 7 := vp_in_nI (by omega) (by decide)
  have ct : (nI t).toNatClampNeg = t := nI_clamp (by omega)
  have id7 : vp_in (nI d) 7 := vp_in_nI (by omega) (by decide)
  have cd : (nI d).toNatClampNeg = d := nI_clamp (by omega)
  have e145 : (145 : Int32) + ((7 * nI t) + nI d) = nI (145 + 7 * t + d) := by show nI 145 + (nI 7 * nI t + nI d) = _; rw [pk_mul, nI_add, nI_add, ← Nat.add_assoc]
  have e194 : (194 : Int32) + ((7 * nI t) + nI d) = nI (194 + 7 * t + d) := by show nI 194 + (nI 7 * nI t + nI d) = _; rw [pk_mul, nI_add, nI_add, ← Nat.add_assoc]
  have i145 : vp_in (145 + ((7 * nI t) + nI d)) 643 := in_I e145 (by omega) (by decide)
  have i194 : vp_in (194 + ((7 * nI t) + nI d)) 643 := in_I e194 (by omega) (by decide)
  have c145 := cl_I e145 (by omega)
  have c194 := cl_I e194 (by omega)
  by_cases cl : pn_nb σ e f t = 0 ∨ ¬ pn_dr σ e f t = 0
  · obtain ⟨T2, f2, g2, Z2⟩ := hT.lost hZ
    refine ⟨m, _, _, T2, f2, g2, Z2, fun Q hQ => ?_, fun Q hQ => ?_⟩
    · unfold wp_En_wordComes wp_En_wordComes_b52
      rw [ci, m2, m3]
      refine ⟨ii, ii, ii, C_near hT.2.1 rfl rfl hf ht ?_⟩
      by_cases c1 : pn_nb σ e f t = 0
      · rw [if_pos c1]
        intro _ q; subst q; exact hQ
      · rw [if_neg c1]
        refine C_drown ?_
        rw [if_neg (cl.resolve_left c1)]
        intro _ q; subst q; exact hQ
    · refine R_lost hT hf ht (fun a b => absurd b (cl.resolve_left a)) (fun _ => ?_)
      rw [if_neg (by decide)]
      exact hQ
  · have c1 : ¬ pn_nb σ e f t = 0 := fun z => cl (Or.inl z)
    have c2 : pn_dr σ e f t = 0 := Decidable.byContradiction fun z => cl (Or.inr z)
    -- both sides behind that
    have pre : ∀ {σ2 ρ2 : sx_M}, (∀ Q : sx_M → Prop, Q σ2 → (if nI d = nI t then Q σ else vp_in (nI i) 200 ∧ (if nI s = 1 then vp_in (nI i) 200 ∧ wp_En_takeReach e (nI f) (nI t) (nI d) x σ (fun r23 σ23 => wp_En_wordComes_b123 e Q (nI i) (nI t) (nI d) r23 σ23) else vp_in (nI i) 200 ∧ wp_En_takeGone e (nI f) (nI t) (nI d) x σ (fun r21 σ21 => wp_En_wordComes_b123 e Q (nI i) (nI t) (nI d) r21 σ21)))) → (∀ Q : sx_M → sx_L → Prop, Q ρ2 θ → wp_Mo_learns (nI t) (nI f) (nI s) (nI d) (nI (j + 1)) x ρ θ Q) →
        (∀ Q : sx_M → Prop, Q σ2 → wp_En_wordComes e (nI i) σ Q) ∧ (∀ Q : sx_M → sx_L → Prop, Q ρ2 θ → wp_Mo_isLost (nI f) (nI t) ρ θ (fun r12 ρ12 θ12 => if r12 = 0 then wp_Mo_learns (nI t) (nI f) (nI s) (nI d) (nI (j + 1)) x ρ12 θ12 Q else Q ρ12 θ12)) := by
      intro σ2 ρ2 hC hR
      refine ⟨fun Q hQ => ?_, fun Q hQ => ?_⟩
      · unfold wp_En_wordComes
        rw [ci, m2, m3, m4]
        refine ⟨ii, ii, ii, C_near hT.2.1 rfl rfl hf ht ?_⟩
        rw [if_neg c1]
        refine C_drown ?_
        rw [if_pos c2]
        rw [m1, m5]
        exact hC Q hQ
      · refine R_lost hT hf ht (fun _ _ => ?_) (fun z => absurd z cl)
        rw [if_pos rfl]
        exact hR Q hQ
    by_cases dt : d = t
    · subst dt
      obtain ⟨wC, wR⟩ := pre (σ2 := σ) (ρ2 := ρ) (fun Q hQ => by rw [if_pos rfl]; exact hQ) (fun Q hQ => by unfold wp_Mo_learns; rw [if_pos rfl]; exact hQ)
      exact ⟨m, σ, ρ, hT, pn_f.rf, pn_g.rf, hZ, wC, wR⟩
    · have dt' : ¬ nI d = nI t := fun z => dt ((nI_eq (by omega) (by omega)).mp z)
      obtain ⟨-, r1, r2⟩ := hT.rt ht hd
      have ro := (hT.2.2.1.2.2.2.2.2.2.2.2.2.2.2.1 t d ht hd).2
      -- not taken
      have none_ : (∀ Q : sx_M → Prop, Q σ → (if nI s = 1 then vp_in (nI i) 200 ∧ wp_En_takeReach e (nI f) (nI t) (nI d) x σ (fun r23 σ23 => wp_En_wordComes_b123 e Q (nI i) (nI t) (nI d) r23 σ23) else vp_in (nI i) 200 ∧ wp_En_takeGone e (nI f) (nI t) (nI d) x σ (fun r21 σ21 => wp_En_wordComes_b123 e Q (nI i) (nI t) (nI d) r21 σ21))) → (∀ Q : sx_M → sx_L → Prop, Q ρ θ → wp_Mo_learns (nI t) (nI f) (nI s) (nI d) (nI (j + 1)) x ρ θ Q) → ∃ m2 σ2 ρ2, pn_T P L v m2 e σ2 ρ2 ∧ pn_f e σ σ2 ∧ pn_g ρ ρ2 ∧ pn_Z P σ2 e (fun _ => False) ∧ (∀ Q : sx_M → Prop, Q σ2 → wp_En_wordComes e (nI i) σ Q) ∧ (∀ Q : sx_M → sx_L → Prop, Q ρ2 θ → wp_Mo_isLost (nI f) (nI t) ρ θ (fun r12 ρ12 θ12 => if r12 = 0 then wp_Mo_learns (nI t) (nI f) (nI s) (nI d) (nI (j + 1)) x ρ12 θ12 Q else Q ρ12 θ12)) := by
        intro hC hR
        obtain ⟨wC, wR⟩ := pre (σ2 := σ) (ρ2 := ρ) (fun Q hQ => by rw [if_neg dt']; exact ⟨ii, hC Q hQ⟩) hR
        exact ⟨m, σ, ρ, hT, pn_f.rf, pn_g.rf, hZ, wC, wR⟩
      have b0 : ∀ Q : sx_M → Prop, Q σ → wp_En_wordComes_b123 e Q (nI i) (nI t) (nI d) 0 σ := by
        intro Q hQ
        unfold wp_En_wordComes_b123 wp_En_wordComes_b200
        rw [if_pos rfl]
        exact ⟨it, ii, hQ⟩
      -- taken: then it is put on
      have on_ : ∀ (σ1 ρ1 : sx_M), pn_T P L v m e σ1 ρ1 → pn_f e σ σ1 → pn_g ρ ρ1 → pn_Z P σ1 e (fun _ => False) →
          ∃ m2 σ2 ρ2, pn_T P L v m2 e σ2 ρ2 ∧ pn_f e σ1 σ2 ∧ pn_g ρ1 ρ2 ∧ pn_Z P σ2 e (fun _ => False) ∧ (∀ Q : sx_M → Prop, Q σ2 → wp_En_wordComes_b123 e Q (nI i) (nI t) (nI d) 1 σ1) ∧ (∀ Q : sx_M → sx_L → Prop, Q ρ2 θ → wp_Mo_learns_b137 Q (nI t) (nI s) (nI d) (nI (j + 1)) x ρ1 θ) := by
        intro σ1 ρ1 T1 f1 g1 Z1
        have po := (T1.2.2.1.2.2.2.2.2.2.2.2.2.2.1 t ht).2.2.1
        have n6 : σ1 26 (25 + e) 0 i = nI j := by rw [f1.1 26 (25 + e) 0 (by omega)]; exact m6
        have n1 : σ1 21 (25 + e) 0 i = nI s := by rw [f1.1 21 (25 + e) 0 (by omega)]; exact m1
        have n5 : σ1 25 (25 + e) 0 i = x := by rw [f1.1 25 (25 + e) 0 (by omega)]; exact m5
        have ep : ρ1 68 0 0 (26 + 10 * t + 2) = σ1 27 e t 3 := T1.fld ht (w := 2) (by decide)
        have stop : (σ1 27 e t 3 = -2 ∨ (12 : Int32) ≤ nI (j + 1)) → ∃ m2 σ2 ρ2, pn_T P L v m2 e σ2 ρ2 ∧ pn_f e σ1 σ2 ∧ pn_g ρ1 ρ2 ∧ pn_Z P σ2 e (fun _ => False) ∧ (∀ Q : sx_M → Prop, Q σ2 → wp_En_wordComes_b123 e Q (nI i) (nI t) (nI d) 1 σ1) ∧ (∀ Q : sx_M → sx_L → Prop, Q ρ2 θ → wp_Mo_learns_b137 Q (nI t) (nI s) (nI d) (nI (j + 1)) x ρ1 θ) := by
          intro hst
          refine ⟨m, σ1, ρ1, T1, pn_f.rf, pn_g.rf, Z1, fun Q hQ => ?_, fun Q hQ => ?_⟩
          · unfold wp_En_wordComes_b123 wp_En_wordComes_b200
            rw [if_neg (by decide), ct, ci, n6, nI_1]
            refine ⟨it, ii, ?_⟩
            by_cases a1 : σ1 27 e t 3 = -2
            · rw [if_pos a1]; exact hQ
            · rw [if_neg a1, if_pos (hst.resolve_left a1)]; exact hQ
          · unfold wp_Mo_learns_b137 wp_Mo_learns_b174
            refine R_of (i := 2) rfl rfl (by omega) (by decide) ?_
            rw [ep]
            by_cases a1 : σ1 27 e t 3 = -2
            · rw [if_pos ((po.neg h7).mpr a1)]; exact hQ
            · rw [if_neg (fun z => a1 ((po.neg h7).mp z)), if_pos (hst.resolve_left a1)]; exact hQ
        by_cases a1 : σ1 27 e t 3 = -2
        · exact stop (Or.inl a1)
        · by_cases a2 : (12 : Int32) ≤ nI (j + 1)
          · exact stop (Or.inr a2)
          · obtain ⟨q, hq, eq⟩ := po.resolve_left a1
            have j10 : j + 1 ≤ 11 := by
              have : ¬ 12 ≤ j + 1 := fun z => a2 (nI_le (a := 12) z (by omega))
              omega
            obtain ⟨m3, σ3, ρ3, T3, f3, g3, l3, wC, wR⟩ := S_word (θ := θ) T1 ⟨hs1, hs2⟩ ht hq hd (j := j + 1) j10 (so := nI s) (fr := nI t) (to := σ1 27 e t 3) (ab := nI d) (ov := nI (j + 1) + 1) (li := nI (j + 1)) x rfl rfl eq rfl rfl (nI_1 _)
            refine ⟨m3, σ3, ρ3, T3, f3, g3, Z1.mv0 f3 (fun q p' h => l3.j.1 q p' (by omega)) l3.j.2, fun Q hQ => ?_, fun Q hQ => ?_⟩
            · unfold wp_En_wordComes_b123 wp_En_wordComes_b200
              rw [if_neg (by decide), ct, ci, n6, n1, n5, nI_1, if_neg a1, if_neg a2]
              exact ⟨it, ii, ii, ii, wC Q hQ⟩
            · unfold wp_Mo_learns_b137 wp_Mo_learns_b174
              refine R_of (i := 2) rfl rfl (by omega) (by decide) ?_
              rw [ep, if_neg (fun z => a1 ((po.neg h7).mp z)), if_neg a2]
              exact wR Q hQ
      by_cases s1 : s = 1
      · -- REACH
        subst s1
        have take : (σ 29 e t d = -2 ∨ σ 30 e t d ≤ x) → ∃ m2 σ2 ρ2, pn_T P L v m2 e σ2 ρ2 ∧ pn_f e σ σ2 ∧ pn_g ρ ρ2 ∧ pn_Z P σ2 e (fun _ => False) ∧ (∀ Q : sx_M → Prop, Q σ2 → wp_En_wordComes e (nI i) σ Q) ∧ (∀ Q : sx_M → sx_L → Prop, Q ρ2 θ → wp_Mo_isLost (nI f) (nI t) ρ θ (fun r12 ρ12 θ12 => if r12 = 0 then wp_Mo_learns (nI t) (nI f) (nI 1) (nI d) (nI (j + 1)) x ρ12 θ12 Q else Q ρ12 θ12)) := by
          intro hk
          have f1 : pn_f e σ (sx_u (sx_u σ 29 e t d (nI f)) 30 e t d x) := (pn_f.rf.u ⟨by omega, rfl⟩).u ⟨by omega, rfl⟩
          have T1 := hT.setR (σ2 := sx_u (sx_u σ 29 e t d (nI f)) 30 e t d x) ht hd (x := nI f) (y := x) (Or.inr ⟨f, hf, rfl⟩) f1 (fun q p h1 h2 => by rw [sx_u_row _ _ _ _ _ _ (by omega), sx_u_row _ _ _ _ _ _ (by omega)]) (fun p k => by rw [sx_u_row _ _ _ _ _ _ (by omega), sx_u_at]; simp) (fun p k h => by rw [sx_u_at, if_neg (by omega), sx_u_row _ _ _ _ _ _ (by omega)]) (fun _ => by rw [sx_u_at]; simp)
          have Z1 : pn_Z P (sx_u (sx_u σ 29 e t d (nI f)) 30 e t d x) e (fun _ => False) := hZ.mv0 f1 (fun q p' h => by rw [sx_u_row _ _ _ _ _ _ (by omega), sx_u_row _ _ _ _ _ _ (by omega)]) (fun p' k _ => by rw [sx_u_row _ _ _ _ _ _ (by omega), sx_u_row _ _ _ _ _ _ (by omega)])
          have g1 : pn_g ρ (sx_u (sx_u ρ 68 0 0 (145 + 7 * t + d) (nI f)) 68 0 0 (194 + 7 * t + d) x) := (pn_g.rf.u rfl).u rfl
          obtain ⟨m2, σ2, ρ2, T2, f2, g2, Z2, wC2, wR2⟩ := on_ _ _ T1 f1 g1 Z1
          refine ⟨m2, σ2, ρ2, T2, f1.tr f2, g1.tr g2, Z2, pre (σ2 := σ2) (ρ2 := ρ2) (fun Q hQ => ?_) (fun Q hQ => ?_)⟩
          · rw [if_neg dt', if_pos (show nI 1 = 1 from rfl)]
            have fin : wp_En_takeReach_b37 e (fun r23 σ23 => wp_En_wordComes_b123 e Q (nI i) (nI t) (nI d) r23 σ23) (nI f) (nI d) x e t σ := by
              unfold wp_En_takeReach_b37
              rw [cd]
              exact ⟨id7, fun _ q => by subst q; exact ⟨id7, fun _ q => by subst q; exact wC2 Q hQ⟩⟩
            unfold wp_En_takeReach
            rw [ct, cd]
            refine ⟨ii, ii, it, id7, ?_⟩
            by_cases a1 : σ 29 e t d = -2
            · rw [if_pos a1]; exact fin
            · rw [if_neg a1, if_pos (hk.resolve_left a1)]; exact ⟨id7, fin⟩
          · have fin : wp_Mo_learns_b52 Q (nI t) (nI f) (nI 1) (nI d) (nI (j + 1)) x ((7 * nI t) + nI d) ρ θ := by
              unfold wp_Mo_learns_b52
              rw [c145, c194]
              exact ⟨i145, fun _ q => by subst q; exact ⟨i194, fun _ q => by subst q; exact wR2 Q hQ⟩⟩
            unfold wp_Mo_learns
            rw [if_neg dt', if_pos (show nI 1 = 1 from rfl), c145, c194, r1]
            refine ⟨i145, ?_⟩
            by_cases a1 : σ 29 e t d = -2
            · rw [if_pos ((ro.neg h7).mpr a1)]; exact fin
            · rw [if_neg (fun z => a1 ((ro.neg h7).mp z)), r2 a1, if_pos (hk.resolve_left a1)]; exact ⟨i194, fin⟩
        by_cases a1 : σ 29 e t d = -2
        · exact take (Or.inl a1)
        · by_cases a2 : σ 30 e t d ≤ x
          · exact take (Or.inr a2)
          · refine none_ (fun Q hQ => ?_) (fun Q hQ => ?_)
            · rw [if_pos (show nI 1 = 1 from rfl)]
              unfold wp_En_takeReach
              rw [ct, cd, if_neg a1, if_neg a2]
              exact ⟨ii, it, id7, id7, b0 Q hQ⟩
            · unfold wp_Mo_learns
              rw [if_neg dt', if_pos (show nI 1 = 1 from rfl), c145, c194, r1, if_neg (fun z => a1 ((ro.neg h7).mp z)), r2 a1, if_neg a2]
              exact ⟨i145, i194, hQ⟩
      · -- GONE
        have s2 : s = 2 := by omega
        subst s2
        have ns : ¬ nI 2 = 1 := by decide
        by_cases a1 : σ 29 e t d = nI f
        · have a3 : ¬ σ 29 e t d = -2 := by rw [a1]; exact pn_m2 (by omega)
          by_cases a2 : σ 30 e t d ≤ x
          · have f1 : pn_f e σ (sx_u σ 29 e t d (-2)) := pn_f.rf.u ⟨by omega, rfl⟩
            have T1 := hT.setR (σ2 := sx_u σ 29 e t d (-2)) ht hd (x := -2) (y := 0) (Or.inl rfl) f1 (fun q p h1 h2 => by rw [sx_u_row _ _ _ _ _ _ (by omega)]) (fun p k => by rw [sx_u_at]; simp) (fun p k h => by rw [sx_u_row _ _ _ _ _ _ (by omega)]) (fun z => absurd rfl z)
            have Z1 : pn_Z P (sx_u σ 29 e t d (-2)) e (fun _ => False) := hZ.mv0 f1 (fun q p' h => by rw [sx_u_row _ _ _ _ _ _ (by omega)]) (fun p' k _ => by rw [sx_u_row _ _ _ _ _ _ (by omega)])
            have g1 : pn_g ρ (sx_u (sx_u ρ 68 0 0 (145 + 7 * t + d) (-2)) 68 0 0 (194 + 7 * t + d) 0) := (pn_g.rf.u rfl).u rfl
            obtain ⟨m2, σ2, ρ2, T2, f2, g2, Z2, wC2, wR2⟩ := on_ _ _ T1 f1 g1 Z1
            refine ⟨m2, σ2, ρ2, T2, f1.tr f2, g1.tr g2, Z2, pre (σ2 := σ2) (ρ2 := ρ2) (fun Q hQ => ?_) (fun Q hQ => ?_)⟩
            · rw [if_neg dt', if_neg ns]
              unfold wp_En_takeGone
              rw [ct, cd, if_pos a1, if_pos a2]
              exact ⟨ii, ii, it, id7, id7, id7, fun _ q => by subst q; exact wC2 Q hQ⟩
            · unfold wp_Mo_learns
              rw [if_neg dt', if_neg ns, c145, c194, r1, if_pos a1, r2 a3, if_pos a2]
              exact ⟨i145, i194, i145, fun _ q => by subst q; exact ⟨i194, fun _ q => by subst q; exact wR2 Q hQ⟩⟩
          · refine none_ (fun Q hQ => ?_) (fun Q hQ => ?_)
            · rw [if_neg ns]
              unfold wp_En_takeGone wp_En_takeGone_b34
              rw [ct, cd, if_pos a1, if_neg a2]
              exact ⟨ii, it, id7, id7, b0 Q hQ⟩
            · unfold wp_Mo_learns wp_Mo_learns_b111
              rw [if_neg dt', if_neg ns, c145, c194, r1, if_pos a1, r2 a3, if_neg a2]
              exact ⟨i145, i194, hQ⟩
        · refine none_ (fun Q hQ => ?_) (fun Q hQ => ?_)
          · rw [if_neg ns]
            unfold wp_En_takeGone wp_En_takeGone_b34
            rw [ct, cd, if_neg a1]
            exact ⟨ii, it, id7, b0 Q hQ⟩
          · unfold wp_Mo_learns wp_Mo_learns_b111
            rw [if_neg dt', if_neg ns, c145, r1, if_neg a1]
            exact ⟨i145, hQ⟩
end COME
