section CHOOSE
variable {P L v m e : Nat} {σ ρ : sx_M} {θ : sx_L}
theorem pn_P.live (h : pn_P P L v σ ρ) : vp_in (ρ 50 0 0 17) 2 ∧ (ρ 50 0 0 17).toNatClampNeg = v := by
  have hv := h.1.2.2
  have e := h.2.1.2.2.1
  exact ⟨in_I e hv (by decide), cl_I e (by omega)⟩
theorem pn_P.rP (h : pn_P P L v σ ρ) : ρ 58 0 0 (ρ 50 0 0 17).toNatClampNeg = nI P := by rw [h.live.2]; exact h.2.1.2.2.2.1
theorem pn_P.rL (h : pn_P P L v σ ρ) : ρ 59 0 0 (ρ 50 0 0 17).toNatClampNeg = nI L := by rw [h.live.2]; exact h.2.1.2.2.2.2
theorem pn_o.neg {P : Nat} {x : Int32} (h : pn_o P x) (hP : P ≤ 7) : (x < 0 ↔ x = -2) := by
  rcases h with rfl | ⟨q, hq, rfl⟩
  · exact ⟨fun _ => rfl, fun _ => by decide⟩
  · refine ⟨fun z => absurd z (nI_pos (by omega)), fun z => ?_⟩
    have := congrArg Int32.toInt z
    rw [nI_toInt (by omega)] at this
    have e : (-2 : Int32).toInt = -2 := rfl
    omega
theorem pn_m2 {q : Nat} (hq : q < 2 ^ 31) : ¬ nI q = -2 := fun z => by
  have := congrArg Int32.toInt z
  rw [nI_toInt hq] at this
  have e : (-2 : Int32).toInt = -2 := rfl
  omega
theorem pn_m1 {q : Nat} (hq : q < 2 ^ 31) : ¬ nI q = -1 := fun z => by
  have := congrArg Int32.toInt z
  rw [nI_toInt hq] at this
  have e : (-1 : Int32).toInt = -1 := rfl
  omega
theorem pn_T.rt (hT : pn_T P L v m e σ ρ) {p j : Nat} (hp : p < P) (hj : j < P) : ρ 68 0 0 (96 + 7 * p + j) = σ 28 e p j ∧ ρ 68 0 0 (145 + 7 * p + j) = σ 29 e p j ∧ (¬ σ 29 e p j = -2 → ρ 68 0 0 (194 + 7 * p + j) = σ 30 e p j) := by
  have := hT.2.2.1.2.2.2.2.2.2.2.1 p j hp hj
  simpa only [Nat.zero_add] using this
theorem S_tellLoop {s p t : Nat} (hs : 1 ≤ s ∧ s ≤ 2) (hp : p < P) (ht : t < P) : ∀ (c d m : Nat) (σ ρ : sx_M), d + c = P → pn_T P L v m e σ ρ →
    ∃ m2 σ2 ρ2, pn_T P L v m2 e σ2 ρ2 ∧ pn_f e σ σ2 ∧ pn_g ρ ρ2 ∧ pn_l e σ σ2 ∧ (∀ Q : sx_M → Prop, Q σ2 → ∃ f, wp_En_tellRoutes_b14 e Q f (nI s) (nI p) (nI t) e p (nI d) σ) ∧ (∀ Q : sx_M → sx_L → Prop, Q ρ2 θ → ∃ f, wp_Mo_tells_b24 Q f (nI p) (nI t) (nI s) (nI d) ρ θ)
  | 0, d, m, σ, ρ, hd, hT => by
    have h7 := hT.p7
    refine ⟨m, σ, ρ, hT, pn_f.rf, pn_g.rf, ⟨fun _ _ _ => rfl, rfl⟩, fun Q hQ => ⟨1, ?_⟩, fun Q hQ => ⟨1, ?_⟩⟩
    · rw [wp_En_tellRoutes_b14, hT.2.1.2.1.1, if_pos (nI_le (by omega) (by omega))]
      exact hQ
    · rw [wp_Mo_tells_b24, hT.2.1.rP, if_pos (nI_le (by omega) (by omega))]
      exact ⟨hT.2.1.live.1, hQ⟩
  | c + 1, d, m, σ, ρ, hd, hT => by
    have h7 := hT.p7
    have hdP : d < P := by omega
    have id7 : vp_in (nI d) 7 := vp_in_nI (by omega) (by decide)
    have e1 : ((145 : Int32) + (7 * nI p)) + nI d = nI (145 + 7 * p + d) := ix_2 145 7 p d
    have e2 : ((194 : Int32) + (7 * nI p)) + nI d = nI (194 + 7 * p + d) := ix_2 194 7 p d
    obtain ⟨-, r1, r2⟩ := hT.rt hp hdP
    have ro := (hT.2.2.1.2.2.2.2.2.2.2.2.2.2.2.1 p d hp hdP).2
    by_cases c1 : σ 29 e p d = -2
    · obtain ⟨m2, σ2, ρ2, T2, f2, g2, l2, wC, wR⟩ := S_tellLoop hs hp ht c (d + 1) m σ ρ (by omega) hT
      refine ⟨m2, σ2, ρ2, T2, f2, g2, l2, fun Q hQ => ?_, fun Q hQ => ?_⟩
      · obtain ⟨f, hf⟩ := wC Q hQ
        refine ⟨f + 1, ?_⟩
        rw [wp_En_tellRoutes_b14, hT.2.1.2.1.1, if_neg (nI_ge hdP (by omega)), nI_clamp (n := d) (by omega), if_pos c1]
        unfold wp_En_tellRoutes_b57
        rw [nI_1]
        exact ⟨id7, hf⟩
      · obtain ⟨f, hf⟩ := wR Q hQ
        refine ⟨f + 1, ?_⟩
        rw [wp_Mo_tells_b24, hT.2.1.rP, if_neg (nI_ge hdP (by omega)), e1, nI_clamp (n := 145 + 7 * p + d) (by omega), r1, if_pos ((ro.neg h7).mpr c1)]
        unfold wp_Mo_tells_b84
        rw [nI_1]
        exact ⟨hT.2.1.live.1, vp_in_nI (by omega) (by decide), hf⟩
    · obtain ⟨m1, σ1, ρ1, T1, f1, g1, l1, wC1, wR1⟩ := S_word (θ := θ) hT hs hp ht hdP (j := 0) (by decide) (so := nI s) (fr := nI p) (to := nI t) (ab := nI d) (ov := 1) (li := 0) (σ 30 e p d) rfl rfl rfl rfl rfl rfl
      obtain ⟨m2, σ2, ρ2, T2, f2, g2, l2, wC, wR⟩ := S_tellLoop hs hp ht c (d + 1) m1 σ1 ρ1 (by omega) T1
      refine ⟨m2, σ2, ρ2, T2, f1.tr f2, g1.tr g2, l1.tr l2, fun Q hQ => ?_, fun Q hQ => ?_⟩
      · obtain ⟨f, hf⟩ := wC Q hQ
        refine ⟨f + 1, ?_⟩
        rw [wp_En_tellRoutes_b14, hT.2.1.2.1.1, if_neg (nI_ge hdP (by omega)), nI_clamp (n := d) (by omega), if_neg c1]
        unfold wp_En_tellRoutes_b57
        rw [nI_1]
        exact ⟨id7, id7, wC1 _ hf⟩
      · obtain ⟨f, hf⟩ := wR Q hQ
        refine ⟨f + 1, ?_⟩
        rw [wp_Mo_tells_b24, hT.2.1.rP, if_neg (nI_ge hdP (by omega)), e1, e2, nI_clamp (n := 145 + 7 * p + d) (by omega), nI_clamp (n := 194 + 7 * p + d) (by omega), r1, r2 c1, if_neg (fun z => c1 ((ro.neg h7).mp z))]
        unfold wp_Mo_tells_b84
        rw [nI_1]
        exact ⟨hT.2.1.live.1, vp_in_nI (by omega) (by decide), vp_in_nI (by omega) (by decide), wR1 _ hf⟩
/-- REACH of all (sort 1) -/
theorem S_tell1 (hT : pn_T P L v m e σ ρ) {p t : Nat} (hp : p < P) (ht : t < P) :
    ∃ m2 σ2 ρ2, pn_T P L v m2 e σ2 ρ2 ∧ pn_f e σ σ2 ∧ pn_g ρ ρ2 ∧ pn_l e σ σ2 ∧ (∀ Q : sx_M → Prop, Q σ2 → wp_En_tellRoutes e 1 (nI p) (nI t) σ Q) ∧ (∀ Q : sx_M → sx_L → Prop, Q ρ2 θ → wp_Mo_tells (nI p) (nI t) 1 ρ θ Q) := by
  have h7 := hT.p7
  obtain ⟨m2, σ2, ρ2, T2, f2, g2, l2, wC, wR⟩ := S_tellLoop (θ := θ) (s := 1) ⟨by decide, by decide⟩ hp ht P 0 m σ ρ (by omega) hT
  refine ⟨m2, σ2, ρ2, T2, f2, g2, l2, fun Q hQ => ?_, fun Q hQ => ?_⟩
  · unfold wp_En_tellRoutes
    rw [nI_clamp (n := p) (by omega)]
    exact ⟨vp_in_nI (by omega) (by decide), wC Q hQ⟩
  · unfold wp_Mo_tells wp_Mo_tells_b21
    rw [if_neg (by decide)]
    exact wR Q hQ
/-- GONE of itself and of all (sort 2) -/
theorem S_tell2 (hT : pn_T P L v m e σ ρ) {p t : Nat} (hp : p < P) (ht : t < P) :
    ∃ m2 σ2 ρ2, pn_T P L v m2 e σ2 ρ2 ∧ pn_f e σ σ2 ∧ pn_g ρ ρ2 ∧ pn_l e σ σ2 ∧ (∀ Q : sx_M → Prop, Q σ2 → wp_En_put e 2 (nI p) (nI t) (nI p) (σ 27 e p 6) 0 σ (fun σ6 => wp_En_tellRoutes e 2 (nI p) (nI t) σ6 Q)) ∧ (∀ Q : sx_M → sx_L → Prop, Q ρ2 θ → wp_Mo_tells (nI p) (nI t) 2 ρ θ Q) := by
  have h7 := hT.p7
  obtain ⟨m1, σ1, ρ1, T1, f1, g1, l1, wC1, wR1⟩ := S_word (θ := θ) hT (s := 2) ⟨by decide, by decide⟩ hp ht hp (j := 0) (by decide) (so := 2) (fr := nI p) (to := nI t) (ab := nI p) (ov := 1) (li := 0) (σ 27 e p 6) rfl rfl rfl rfl rfl rfl
  obtain ⟨m2, σ2, ρ2, T2, f2, g2, l2, wC, wR⟩ := S_tellLoop (θ := θ) (s := 2) ⟨by decide, by decide⟩ hp ht P 0 m1 σ1 ρ1 (by omega) T1
  refine ⟨m2, σ2, ρ2, T2, f1.tr f2, g1.tr g2, l1.tr l2, fun Q hQ => ?_, fun Q hQ => ?_⟩
  · refine wC1 _ ?_
    unfold wp_En_tellRoutes
    rw [nI_clamp (n := p) (by omega)]
    exact ⟨vp_in_nI (by omega) (by decide), wC Q hQ⟩
  · unfold wp_Mo_tells wp_Mo_tells_b21
    rw [if_pos rfl]
    refine R_of (i := 5) rfl rfl (by omega) (by decide) ?_
    rw [hT.fld hp (w := 5) (by decide)]
    exact wR1 _ (wR Q hQ)
/-- what a post would have below another one -/
def pn_of (σ : sx_M) (e p k : Nat) : Int32 := if 9999 ≤ σ 28 e p k then 1000000 else if pn_nb σ e p k = 0 then 1000000 else σ 28 e p k + pn_st σ e (σ 13 0 p k).toNatClampNeg
theorem pn_nb_l (hP : pn_P P L v σ ρ) {a b : Nat} (ha : a < P) (hb : b < P) (h : ¬ pn_nb σ e a b = 0) : ∃ l, l < L ∧ σ 13 0 a b = nI l ∧ (σ 13 0 a b).toNatClampNeg = l := by
  have h16 := hP.1.2.1
  unfold pn_nb at h
  by_cases c : σ 13 0 a b = -1
  · rw [if_pos c] at h; exact absurd rfl h
  · obtain ⟨l, hl, el, -⟩ := ((hP.2.2.2.2.2.1 a b ha hb).2).resolve_left c
    exact ⟨l, hl, el, by rw [el]; exact nI_clamp (by omega)⟩
theorem C_offer (hP : pn_P P L v σ ρ) {x y : Int32} {Q : Int32 → sx_M → Prop} {a b : Nat} (hx : x = nI a) (hy : y = nI b) (ha : a < P) (hb : b < P) (h : Q (pn_of σ e a b) σ) : wp_Ne_offer e x y σ Q := by
  subst hx hy
  have h7 := hP.1.1
  have ia : vp_in (nI a) 7 := vp_in_nI (by omega) (by decide)
  have ib : vp_in (nI b) 7 := vp_in_nI (by omega) (by decide)
  unfold wp_Ne_offer
  rw [nI_clamp (n := a) (by omega), nI_clamp (n := b) (by omega)]
  unfold wp_Ne_offer_b26
  unfold pn_of at h
  refine C_near hP rfl rfl ha hb ?_
  by_cases c2 : pn_nb σ e a b = 0
  · rw [if_pos c2]; rw [if_pos c2, ite_self] at h; exact h
  · rw [if_neg c2] at h ⊢
    refine ⟨ia, ib, ?_⟩
    by_cases c : 9999 ≤ σ 28 e a b
    · rw [if_pos c] at h; rw [if_neg (Int32.not_lt.mpr c)]; exact h
    · rw [if_neg c] at h; rw [if_pos (Int32.not_le.mp c)]
      obtain ⟨l, hl, el, ecl⟩ := pn_nb_l hP ha hb c2
      rw [ecl] at h
      exact ⟨ia, ib, ia, ib, C_step hP el hl h⟩
theorem pn_of_v (hP : pn_P P L v σ ρ) (hN : pn_N P L m σ e ρ 68 0) {a b : Nat} (ha : a < P) (hb : b < P) : pn_of σ e a b = 1000000 ∨ ∃ x, x < 10100 ∧ pn_of σ e a b = nI x := by
  unfold pn_of
  by_cases c : 9999 ≤ σ 28 e a b
  · rw [if_pos c]; exact Or.inl rfl
  · rw [if_neg c]
    by_cases c2 : pn_nb σ e a b = 0
    · rw [if_pos c2]; exact Or.inl rfl
    · rw [if_neg c2]
      right
      obtain ⟨l, hl, el, ecl⟩ := pn_nb_l hP ha hb c2
      obtain ⟨q, hq, eq⟩ := (hN.2.2.2.2.2.2.2.2.2.2.2.1 a b ha hb).1
      rw [eq] at c ⊢
      have hq2 : q < 9999 := Nat.lt_of_not_le fun z => c (nI_le z (by omega))
      rw [ecl]
      unfold pn_st
      by_cases c3 : σ 8 0 0 7 = 0
      · rw [if_pos c3]
        exact ⟨q + 10, by omega, nI_add q 10⟩
      · rw [if_neg c3]
        obtain ⟨cc, c4, c5, c6⟩ := (hN.2.2.2.2.2.1 l hl).2
        rw [c6]
        refine ⟨q + 10 * cc, by omega, ?_⟩
        show nI q + nI 10 * nI cc = _
        rw [pk_mul, nI_add]
/-- the best offer among the first k: who, and what -/
def pn_bo (σ : sx_M) (e p : Nat) (as : Int32) : Nat → Int32 × Int32
  | 0 => (-2, 1000000)
  | k + 1 => if (pn_bo σ e p as k).2 ≤ (if nI k = as then 1000000 else pn_of σ e p k) then pn_bo σ e p as k else (nI k, if nI k = as then 1000000 else pn_of σ e p k)
theorem C_bestLoop (hP : pn_P P L v σ ρ) {Q : Int32 → sx_M → Prop} {p : Nat} (hp : p < P) (as : Int32) (h : Q (pn_bo σ e p as P).1 σ) : ∀ (c d : Nat), d + c = P → ∃ f, wp_Ne_bestOffer_b10 e Q f (nI p) as (pn_bo σ e p as d).1 (pn_bo σ e p as d).2 (nI d) σ
  | 0, d, hd => by
    have h7 := hP.1.1
    refine ⟨1, ?_⟩
    rw [wp_Ne_bestOffer_b10, hP.2.1.1, if_pos (nI_le (by omega) (by omega))]
    have : d = P := by omega
    subst this
    exact h
  | c + 1, d, hd => by
    have h7 := hP.1.1
    obtain ⟨f, hf⟩ := C_bestLoop hP hp as h c (d + 1) (by omega)
    refine ⟨f + 1, ?_⟩
    rw [wp_Ne_bestOffer_b10, hP.2.1.1, if_neg (nI_ge (by omega) (by omega))]
    have fin : ∀ o : Int32, o = (if nI d = as then 1000000 else pn_of σ e p d) → wp_Ne_bestOffer_b40 e (wp_Ne_bestOffer_b10 e Q f) Q (nI p) as (pn_bo σ e p as d).1 (pn_bo σ e p as d).2 (nI d) o σ := by
      intro o ho
      unfold wp_Ne_bestOffer_b40 wp_Ne_bestOffer_b56
      rw [nI_1]
      unfold pn_bo at hf
      rw [← ho] at hf
      by_cases c1 : (pn_bo σ e p as d).2 ≤ o
      · rw [if_pos c1] at hf ⊢; exact hf
      · rw [if_neg c1] at hf ⊢; exact hf
    by_cases c1 : nI d = as
    · rw [if_pos c1]
      exact fin _ (if_pos c1).symm
    · rw [if_neg c1]
      exact C_offer hP rfl rfl hp (by omega) (fin _ (if_neg c1).symm)
theorem C_best (hP : pn_P P L v σ ρ) {Q : Int32 → sx_M → Prop} {p : Nat} (hp : p < P) (as : Int32) (h : Q (pn_bo σ e p as P).1 σ) : wp_Ne_bestOffer e (nI p) as σ Q := by
  unfold wp_Ne_bestOffer
  exact C_bestLoop hP hp as h P 0 (by omega)
/-- the best of the first k: nobody and nothing, or one of them and what it offers -/
theorem pn_bo_v (hP : pn_P P L v σ ρ) (hN : pn_N P L m σ e ρ 68 0) {p : Nat} (hp : p < P) (as : Int32) : ∀ k, k ≤ P → (pn_bo σ e p as k = (-2, 1000000)) ∨ ∃ q x, q < k ∧ x < 10100 ∧ ¬ nI q = as ∧ pn_bo σ e p as k = (nI q, nI x) ∧ pn_of σ e p q = nI x
  | 0, _ => Or.inl rfl
  | k + 1, hk => by
    have ih := pn_bo_v hP hN hp as k (by omega)
    unfold pn_bo
    by_cases c : (pn_bo σ e p as k).2 ≤ (if nI k = as then 1000000 else pn_of σ e p k)
    · rw [if_pos c]
      rcases ih with h | ⟨q, x, h1, h2⟩
      · exact Or.inl h
      · exact Or.inr ⟨q, x, by omega, h2⟩
    · rw [if_neg c]
      have h2 : ∀ z : Int32, z = 1000000 → ¬ (pn_bo σ e p as k).2 ≤ z → False := by
        intro z hz hc
        rcases ih with h | ⟨q, x, h1, h2, h3, h4, h5⟩
        · rw [h, hz] at hc; exact hc (by decide)
        · rw [h4, hz] at hc; exact hc (nI_le (a := x) (b := 1000000) (by omega) (by decide))
      by_cases c1 : nI k = as
      · rw [if_pos c1] at c; exact (h2 _ rfl c).elim
      · rw [if_neg c1] at c ⊢
        rcases pn_of_v hP hN hp (b := k) (by omega) with h | ⟨x, hx, ex⟩
        · exact (h2 _ h c).elim
        · exact Or.inr ⟨k, x, by omega, hx, c1, by rw [ex], ex⟩
end CHOOSE
