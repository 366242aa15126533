/-- how many parents up to the root -/
def hp_ (σ : sx_M) (e : Nat) : Nat → Nat → Nat
  | 0, _ => 100
  | k + 1, x => if x = 0 then 0 else if σ 27 e x 3 = -2 then 100 else hp_ σ e k (σ 27 e x 3).toNatClampNeg + 1
section RIGHT
variable {P L v m e : Nat} {σ σ2 ρ ρ2 : sx_M} {θ : sx_L} {w : Int32} {d : Nat → Nat}
theorem hp_s (σ : sx_M) (e k x : Nat) : hp_ σ e (k + 1) x = if x = 0 then 0 else if σ 27 e x 3 = -2 then 100 else hp_ σ e k (σ 27 e x 3).toNatClampNeg + 1 := rfl
theorem hp_lt (σ : sx_M) (e : Nat) : ∀ k x, hp_ σ e k x < 50 → hp_ σ e k x < k
  | 0, x, h => by have : hp_ σ e 0 x = 100 := rfl; omega
  | k + 1, x, h => by
    rw [hp_s] at h ⊢
    by_cases c : x = 0
    · rw [if_pos c]; omega
    · rw [if_neg c] at h ⊢
      by_cases c2 : σ 27 e x 3 = -2
      · rw [if_pos c2] at h; omega
      · rw [if_neg c2] at h ⊢
        have := hp_lt σ e k _ (show hp_ σ e k (σ 27 e x 3).toNatClampNeg < 50 by omega)
        omega
theorem hp_up (σ : sx_M) (e : Nat) : ∀ k x, hp_ σ e k x < 50 → hp_ σ e (k + 1) x = hp_ σ e k x
  | 0, x, h => by have : hp_ σ e 0 x = 100 := rfl; omega
  | k + 1, x, h => by
    rw [hp_s σ e (k + 1) x]
    rw [hp_s σ e k x] at h ⊢
    by_cases c : x = 0
    · rw [if_pos c, if_pos c]
    · rw [if_neg c] at h
      rw [if_neg c, if_neg c]
      by_cases c2 : σ 27 e x 3 = -2
      · rw [if_pos c2, if_pos c2]
      · rw [if_neg c2] at h
        rw [if_neg c2, if_neg c2, hp_up σ e k _ (show hp_ σ e k (σ 27 e x 3).toNatClampNeg < 50 by omega)]
theorem hp_dn (σ : sx_M) (e : Nat) : ∀ k x, hp_ σ e (k + 1) x < k → hp_ σ e k x = hp_ σ e (k + 1) x
  | 0, x, h => by omega
  | k + 1, x, h => by
    rw [hp_s σ e (k + 1) x] at h ⊢
    rw [hp_s σ e k x]
    by_cases c : x = 0
    · rw [if_pos c, if_pos c]
    · rw [if_neg c] at h
      rw [if_neg c, if_neg c]
      by_cases c2 : σ 27 e x 3 = -2
      · rw [if_pos c2, if_pos c2]
      · rw [if_neg c2] at h
        rw [if_neg c2, if_neg c2, hp_dn σ e k _ (show hp_ σ e (k + 1) (σ 27 e x 3).toNatClampNeg < k by omega)]
theorem hp_dp (h7 : P ≤ 7) (hO : ∀ p, p < P → pn_o P (σ 27 e p 3)) : ∀ k d x, k ≤ 10 → x < P → (hp_ σ e k x < 50 → pn_dp σ e k d (nI x) = nI (d + hp_ σ e k x)) ∧ (¬ hp_ σ e k x < 50 → pn_dp σ e k d (nI x) = -1)
  | 0, d, x, hk, hx => ⟨fun h => by have : hp_ σ e 0 x = 100 := rfl; omega, fun _ => rfl⟩
  | k + 1, d, x, hk, hx => by
    have u : pn_dp σ e (k + 1) d (nI x) = if x = 0 then nI d else pn_dp σ e k (d + 1) (σ 27 e x 3) := by
      show (if nI x = -2 then -1 else if nI x = 0 then nI d else pn_dp σ e k (d + 1) (σ 27 e (nI x).toNatClampNeg 3)) = _
      rw [if_neg (pn_m2 (by omega)), nI_clamp (n := x) (by omega)]
      by_cases c : x = 0
      · subst c; rw [if_pos (show nI 0 = 0 from rfl), if_pos rfl]
      · rw [if_neg (nI_ne0 (by omega) (by omega)), if_neg c]
    rw [u, hp_s]
    by_cases c : x = 0
    · rw [if_pos c, if_pos c]; exact ⟨fun _ => rfl, fun h => by omega⟩
    · rw [if_neg c, if_neg c]
      by_cases c2 : σ 27 e x 3 = -2
      · rw [if_pos c2]
        refine ⟨fun h => by omega, fun _ => ?_⟩
        rw [c2]
        cases k with
        | zero => rfl
        | succ k => exact if_pos rfl
      · rw [if_neg c2]
        obtain ⟨q, hq, eq⟩ := (hO x hx).resolve_left c2
        rw [eq, nI_clamp (n := q) (by omega)]
        obtain ⟨a1, a2⟩ := hp_dp h7 hO k (d + 1) q (by omega) hq
        refine ⟨fun h => ?_, fun h => ?_⟩
        · rw [a1 (by omega)]; congr 1; omega
        · refine a2 (fun z => h ?_)
          have := hp_lt σ e k q z; omega
theorem hp_ct (h7 : P ≤ 7) (hO : ∀ p, p < P → pn_o P (σ 27 e p 3)) : ∀ k x, k ≤ 10 → x < P → (hp_ σ e k x < 50 → pn_ct σ e 0 k (nI x) = 1) ∧ (¬ hp_ σ e k x < 50 → pn_ct σ e 0 k (nI x) = 0)
  | 0, x, hk, hx => ⟨fun h => by have : hp_ σ e 0 x = 100 := rfl; omega, fun _ => rfl⟩
  | k + 1, x, hk, hx => by
    have u : pn_ct σ e 0 (k + 1) (nI x) = if x = 0 then 1 else pn_ct σ e 0 k (σ 27 e x 3) := by
      show (if nI x = -2 then 0 else if nI x = nI 0 then 1 else pn_ct σ e 0 k (σ 27 e (nI x).toNatClampNeg 3)) = _
      rw [if_neg (pn_m2 (by omega)), nI_clamp (n := x) (by omega)]
      by_cases c : x = 0
      · subst c; rw [if_pos rfl, if_pos rfl]
      · rw [if_neg (fun z => c ((nI_eq (by omega) (by omega)).mp z)), if_neg c]
    rw [u, hp_s]
    by_cases c : x = 0
    · rw [if_pos c, if_pos c]; exact ⟨fun _ => rfl, fun h => by omega⟩
    · rw [if_neg c, if_neg c]
      by_cases c2 : σ 27 e x 3 = -2
      · rw [if_pos c2]
        refine ⟨fun h => by omega, fun _ => ?_⟩
        rw [c2]
        cases k with
        | zero => rfl
        | succ k => exact if_pos rfl
      · rw [if_neg c2]
        obtain ⟨q, hq, eq⟩ := (hO x hx).resolve_left c2
        rw [eq, nI_clamp (n := q) (by omega)]
        obtain ⟨a1, a2⟩ := hp_ct h7 hO k q (by omega) hq
        refine ⟨fun h => a1 (by omega), fun h => a2 (fun z => h ?_)⟩
        have := hp_lt σ e k q z; omega
theorem hp_tr (h7 : P ≤ 7) (hO : ∀ p, p < P → pn_o P (σ 27 e p 3)) : ∀ n x, x < P → hp_ σ e 8 x = n → n ≤ 7 → n ≤ tr_ (hp_ σ e 8) P n
  | 0, _, _, _, _ => Nat.zero_le _
  | n + 1, x, hx, hn, h => by
    rw [hp_s] at hn
    by_cases c : x = 0
    · rw [if_pos c] at hn; omega
    · rw [if_neg c] at hn
      by_cases c2 : σ 27 e x 3 = -2
      · rw [if_pos c2] at hn; omega
      · rw [if_neg c2] at hn
        obtain ⟨q, hq, eq⟩ := (hO x hx).resolve_left c2
        rw [eq, nI_clamp (n := q) (by omega)] at hn
        have e8 : hp_ σ e 8 q = n := (hp_up σ e 7 q (by omega)).trans (by omega)
        have ih := hp_tr h7 hO n q hq e8 (by omega)
        have := tr_lt (hp_ σ e 8) (x := n) (y := n + 1) (q := q) (by omega) (by omega) P hq
        omega
/-- to come to the root, and to be above it -/
theorem ct_dp (h7 : P ≤ 7) (hO : ∀ p, p < P → pn_o P (σ 27 e p 3)) {p q : Nat} (p0 : 0 < p) (hp : p < P) (hq : q < P) (eq : σ 27 e p 3 = nI q) : (pn_ct σ e 0 7 (nI q) = 1 ∧ 0 ≤ pn_dp σ e 7 0 (nI p)) ∨ (pn_ct σ e 0 7 (nI q) = 0 ∧ ¬ 0 ≤ pn_dp σ e 7 0 (nI p)) := by
  have e8 : hp_ σ e 8 p = hp_ σ e 7 q + 1 := by
    rw [hp_s, if_neg (by omega), if_neg (by rw [eq]; exact pn_m2 (by omega)), eq, nI_clamp (n := q) (by omega)]
  by_cases c : hp_ σ e 7 q < 50
  · have c7 := hp_lt σ e 7 q c
    have t1 := hp_tr h7 hO _ p hp rfl (by omega)
    have t2 := tr_self (hp_ σ e 8) hp
    have e9 : hp_ σ e (7 + 1) p = hp_ σ e 7 q + 1 := e8
    have t3 := hp_dn σ e 7 p (by omega)
    refine Or.inl ⟨(hp_ct h7 hO 7 q (by omega) hq).1 c, ?_⟩
    rw [(hp_dp h7 hO 7 0 p (by omega) hp).1 (by omega)]
    exact nI_pos' (by omega)
  · refine Or.inr ⟨(hp_ct h7 hO 7 q (by omega) hq).2 c, ?_⟩
    rw [(hp_dp h7 hO 7 0 p (by omega) hp).2 (fun z => c (by have := hp_up σ e 7 p z; have e9 : hp_ σ e (7 + 1) p = hp_ σ e 7 q + 1 := e8; omega))]
    decide
theorem pn_N.fl (hN : pn_N P L m σ e ρ 68 0) {p w : Nat} (hp : p < P) (hw : w < 10) : ρ 68 0 0 (26 + 10 * p + w) = σ 27 e p (w + 1) := by
  have := hN.2.2.2.2.2.2.1 p hp w hw
  rw [Nat.zero_add] at this; exact this
theorem R_dpN (h7 : P ≤ 7) (hN : pn_N P L m σ e ρ 68 0) {Q : Int32 → sx_M → sx_L → Prop} : ∀ (k d q : Nat), d + k = 7 → q < P → Q (pn_dp σ e k d (nI q)) ρ θ → ∃ f, wp_Mo_above_b4 Q f (nI q) (nI d) ρ θ
  | 0, d, q, hd, hx, h => by
    have : d = 7 := by omega
    subst this
    exact ⟨1, by rw [wp_Mo_above_b4, if_pos (by decide)]; exact h⟩
  | k + 1, d, q, hd, hx, h => by
    have nd : ¬ 7 ≤ nI d := nI_ge (b := 7) (by omega) (by decide)
    have po := hN.par q hx
    unfold pn_dp at h
    rw [if_neg (pn_m2 (by omega)), nI_clamp (n := q) (by omega)] at h
    by_cases c2 : nI q = 0
    · rw [if_pos c2] at h
      exact ⟨1, by rw [wp_Mo_above_b4, if_neg nd, if_pos c2]; exact h⟩
    · rw [if_neg c2] at h
      by_cases c3 : σ 27 e q 3 = -2
      · have hm : pn_dp σ e k (d + 1) (σ 27 e q 3) = -1 := by
          rw [c3]; cases k with
          | zero => rfl
          | succ k => unfold pn_dp; rw [if_pos rfl]
        rw [hm] at h
        refine ⟨1, ?_⟩
        rw [wp_Mo_above_b4, if_neg nd, if_neg c2]
        refine R_of (i := 2) rfl rfl (by omega) (by decide) ?_
        rw [hN.fl hx (w := 2) (by decide), if_neg (fun z => absurd ((po.neg h7).mpr c3) (Int32.not_lt.mpr z))]
        exact h
      · obtain ⟨r, hr, er⟩ := po.resolve_left c3
        rw [er] at h
        obtain ⟨f, hf⟩ := R_dpN h7 hN k (d + 1) r (by omega) hr h
        refine ⟨f + 1, ?_⟩
        rw [wp_Mo_above_b4, if_neg nd, if_neg c2, nI_1]
        refine R_of (i := 2) rfl rfl (by omega) (by decide) ?_
        rw [hN.fl hx (w := 2) (by decide), if_pos (Int32.not_lt.mp (fun z => c3 ((po.neg h7).mp z))), er]
        exact hf
theorem S_rtOne (hP : pn_P P L v σ ρ) (hN : pn_N P L m σ e ρ 68 0) (hd9 : ∀ j, d j ≤ 9999) (hC : ∀ j, j < P → σ 33 0 0 j = nI (d j)) (hR : ∀ j, j < P → ρ 74 0 0 j = nI (d j)) {p : Nat} (p0 : 0 < p) (hp : p < P) :
    ∃ r, pn_z r ∧ (∀ Q : Int32 → sx_M → Prop, Q r σ → wp_Tr_isPostRight e (nI p) σ Q) ∧ (∀ (k7 : Int32 → sx_M → sx_L → Prop) (Q : Int32 → sx_M → sx_L → Prop), (r = 0 → Q 0 ρ θ) → (r = 1 → k7 (nI p + 1) ρ θ) →
      wp_Mo_of (nI p) (0 : Int32) ρ θ (fun r5 σ5 τ5 => wp_Mo_of (0 : Int32) (0 : Int32) σ5 τ5 (fun r6 σ6 τ6 => if r5 = r6 then (vp_in (nI p) 7 ∧ (if σ6 74 0 0 (nI p).toNatClampNeg = 9999 then (wp_Mo_of (nI p) (1 : Int32) σ6 τ6 (fun r20 σ20 τ20 => if r20 = 9999 then (wp_Mo_isRight_b126 k7 Q (nI p) σ20 τ20) else (Q 0 σ20 τ20))) else (wp_Mo_of (nI p) (2 : Int32) σ6 τ6 (fun r10 σ10 τ10 => if r10 < 0 then (wp_Mo_isRight_b124 Q σ10 τ10) else (wp_Mo_areNear (nI p) r10 σ10 τ10 (fun r12 σ12 τ12 => if r12 = 0 then (wp_Mo_isRight_b124 Q σ12 τ12) else (wp_Mo_of r10 (1 : Int32) σ12 τ12 (fun r14 σ14 τ14 => wp_Mo_stepTo (nI p) r10 σ14 τ14 (fun r15 σ15 τ15 => wp_Mo_of (nI p) (1 : Int32) σ15 τ15 (fun r16 σ16 τ16 => if r14 + r15 = r16 then (wp_Mo_above (nI p) σ16 τ16 (fun r18 σ18 τ18 => if 0 ≤ r18 then (wp_Mo_isRight_b126 k7 Q (nI p) σ18 τ18) else (wp_Mo_isRight_b124 Q σ18 τ18))) else (wp_Mo_isRight_b124 Q σ16 τ16))))))))))) else (Q 0 σ6 τ6)))) := by
  have h7 := hP.1.1
  have cp : (nI p).toNatClampNeg = p := nI_clamp (by omega)
  have ip : vp_in (nI p) 7 := vp_in_nI (by omega) (by decide)
  have i0 : vp_in 0 7 := in_I (n := 0) rfl (by decide) (by decide)
  have c0 : (0 : Int32).toNatClampNeg = 0 := rfl
  have f0 : ρ 68 0 0 (26 + 10 * p + 0) = σ 27 e p 1 := hN.fl hp (by decide)
  have f1 : ρ 68 0 0 (26 + 10 * p + 1) = σ 27 e p 2 := hN.fl hp (by decide)
  have f2 : ρ 68 0 0 (26 + 10 * p + 2) = σ 27 e p 3 := hN.fl hp (by decide)
  have f00 : ρ 68 0 0 (26 + 10 * 0 + 0) = σ 27 e 0 1 := hN.fl (by omega) (by decide)
  unfold wp_Mo_isRight_b126 wp_Mo_isRight_b124
  by_cases cv : σ 27 e p 1 = σ 27 e 0 1
  · by_cases cd : d p = 9999
    · by_cases cr : σ 27 e p 2 = 9999
      · refine ⟨1, Or.inr rfl, fun Q hQ => ?_, fun k7 Q h0 h1 => ?_⟩
        · unfold wp_Tr_isPostRight wp_Tr_isPostRight_b52
          rw [cp, c0, if_pos cv, hC p hp, cd, if_neg (by decide), if_pos cr]
          exact ⟨ip, i0, ip, Or.inr rfl, hQ⟩
        · refine R_of (i := 0) rfl rfl (by omega) (by decide) ?_
          refine R_of (p := 0) (i := 0) rfl rfl (by omega) (by decide) ?_
          rw [f0, f00, if_pos cv, cp, hR p hp, cd, if_pos (by decide)]
          refine ⟨ip, ?_⟩
          refine R_of (i := 1) rfl rfl (by omega) (by decide) ?_
          rw [f1, if_pos cr]; exact h1 rfl
      · refine ⟨0, Or.inl rfl, fun Q hQ => ?_, fun k7 Q h0 h1 => ?_⟩
        · unfold wp_Tr_isPostRight wp_Tr_isPostRight_b52
          rw [cp, c0, if_pos cv, hC p hp, cd, if_neg (by decide), if_neg cr]
          exact ⟨ip, i0, ip, Or.inl rfl, hQ⟩
        · refine R_of (i := 0) rfl rfl (by omega) (by decide) ?_
          refine R_of (p := 0) (i := 0) rfl rfl (by omega) (by decide) ?_
          rw [f0, f00, if_pos cv, cp, hR p hp, cd, if_pos (by decide)]
          refine ⟨ip, ?_⟩
          refine R_of (i := 1) rfl rfl (by omega) (by decide) ?_
          rw [f1, if_neg cr]; exact h0 rfl
    · have d9 := hd9 p
      have ld : nI (d p) < 9999 := nI_lt (b := 9999) (by omega) (by decide)
      have nd : ¬ nI (d p) = 9999 := fun z => cd ((nI_eq (b := 9999) (by omega) (by decide)).mp z)
      -- heads
      have hdC : ∀ Q : Int32 → sx_M → Prop, (wp_Ne_areNeighbours e (nI p) (σ 27 e p 3) σ (fun r9 σ9 => if r9 = 0 then (Q 0 σ9) else (vp_in (nI p) 7 ∧ (vp_in (σ9 27 e p 3) 7 ∧ (wp_Ne_stepOf e (σ9 13 0 p (σ9 27 e p 3).toNatClampNeg) σ9 (fun r13 σ13 => vp_in (σ13 27 e p 3) 7 ∧ (if (σ13 27 e ((σ13 27 e p 3).toNatClampNeg) 2) + r13 = σ13 27 e p 2 then (wp_Ne_comesTo e (nI p) (0 : Int32) σ13 (fun r16 σ16 => if r16 = 0 then (wp_Tr_isPostRight_b122 Q σ16) else (wp_Tr_isPostRight_b123 Q 1 σ16))) else (wp_Tr_isPostRight_b122 Q σ13)))))))) → wp_Tr_isPostRight e (nI p) σ Q := fun Q h => by
        unfold wp_Tr_isPostRight
        rw [cp, c0, if_pos cv, hC p hp, if_pos ld]
        exact ⟨ip, i0, ip, h⟩
      rcases hN.par p hp with cq | ⟨q, hq, cq⟩
      · refine ⟨0, Or.inl rfl, fun Q hQ => hdC Q ?_, fun k7 Q h0 h1 => ?_⟩
        · exact C_near0 (by rw [cq]; decide) hQ
        · refine R_of (i := 0) rfl rfl (by omega) (by decide) ?_
          refine R_of (p := 0) (i := 0) rfl rfl (by omega) (by decide) ?_
          rw [f0, f00, if_pos cv, cp, hR p hp, if_neg nd]
          refine ⟨ip, ?_⟩
          refine R_of (i := 2) rfl rfl (by omega) (by decide) ?_
          rw [f2, cq, if_pos (by decide)]; exact h0 rfl
      · have nq : ¬ σ 27 e p 3 = -2 := by rw [cq]; exact pn_m2 (by omega)
        have cqq : (nI q).toNatClampNeg = q := nI_clamp (by omega)
        have iq : vp_in (nI q) 7 := vp_in_nI (by omega) (by decide)
        by_cases cn : pn_nb σ e p q = 0
        · refine ⟨0, Or.inl rfl, fun Q hQ => hdC Q ?_, fun k7 Q h0 h1 => ?_⟩
          · rw [cq]
            refine C_near hP rfl rfl hp hq ?_
            rw [if_pos cn]; exact hQ
          · refine R_of (i := 0) rfl rfl (by omega) (by decide) ?_
            refine R_of (p := 0) (i := 0) rfl rfl (by omega) (by decide) ?_
            rw [f0, f00, if_pos cv, cp, hR p hp, if_neg nd]
            refine ⟨ip, ?_⟩
            refine R_of (i := 2) rfl rfl (by omega) (by decide) ?_
            rw [f2, cq, if_neg (nI_pos (by omega))]
            refine R_near hP hN rfl rfl hp hq ?_
            rw [if_pos cn]; exact h0 rfl
        · obtain ⟨l, hl, el, el2⟩ := pn_nb_l hP hp hq cn
          have g1 : ρ 68 0 0 (26 + 10 * q + 1) = σ 27 e q 2 := hN.fl hq (by decide)
          have hdR : ∀ (k7 : Int32 → sx_M → sx_L → Prop) (Q : Int32 → sx_M → sx_L → Prop), (if σ 27 e q 2 + pn_st σ e l = σ 27 e p 2 then (wp_Mo_above (nI p) ρ θ (fun r18 σ18 τ18 => if 0 ≤ r18 then (k7 (nI p + 1) σ18 τ18) else (Q 0 σ18 τ18))) else (Q 0 ρ θ)) → wp_Mo_of (nI p) (0 : Int32) ρ θ (fun r5 σ5 τ5 => wp_Mo_of (0 : Int32) (0 : Int32) σ5 τ5 (fun r6 σ6 τ6 => if r5 = r6 then (vp_in (nI p) 7 ∧ (if σ6 74 0 0 (nI p).toNatClampNeg = 9999 then (wp_Mo_of (nI p) (1 : Int32) σ6 τ6 (fun r20 σ20 τ20 => if r20 = 9999 then (k7 (nI p + 1) σ20 τ20) else (Q 0 σ20 τ20))) else (wp_Mo_of (nI p) (2 : Int32) σ6 τ6 (fun r10 σ10 τ10 => if r10 < 0 then (Q 0 σ10 τ10) else (wp_Mo_areNear (nI p) r10 σ10 τ10 (fun r12 σ12 τ12 => if r12 = 0 then (Q 0 σ12 τ12) else (wp_Mo_of r10 (1 : Int32) σ12 τ12 (fun r14 σ14 τ14 => wp_Mo_stepTo (nI p) r10 σ14 τ14 (fun r15 σ15 τ15 => wp_Mo_of (nI p) (1 : Int32) σ15 τ15 (fun r16 σ16 τ16 => if r14 + r15 = r16 then (wp_Mo_above (nI p) σ16 τ16 (fun r18 σ18 τ18 => if 0 ≤ r18 then (k7 (nI p + 1) σ18 τ18) else (Q 0 σ18 τ18))) else (Q 0 σ16 τ16))))))))))) else (Q 0 σ6 τ6))) := fun k7 Q h => by
            refine R_of (i := 0) rfl rfl (by omega) (by decide) ?_
            refine R_of (p := 0) (i := 0) rfl rfl (by omega) (by decide) ?_
            rw [f0, f00, if_pos cv, cp, hR p hp, if_neg nd]
            refine ⟨ip, ?_⟩
            refine R_of (i := 2) rfl rfl (by omega) (by decide) ?_
            rw [f2, cq, if_neg (nI_pos (by omega))]
            refine R_near hP hN rfl rfl hp hq ?_
            rw [if_neg cn]
            refine R_of (i := 1) rfl rfl (by omega) (by decide) ?_
            refine R_stepTo hP hN rfl rfl hp hq el hl ?_
            refine R_of (i := 1) rfl rfl (by omega) (by decide) ?_
            rw [g1, f1]; exact h
          have hdC2 : ∀ Q : Int32 → sx_M → Prop, (if σ 27 e q 2 + pn_st σ e l = σ 27 e p 2 then (wp_Ne_comesTo e (nI p) (nI 0) σ (fun r16 σ16 => if r16 = 0 then (wp_Tr_isPostRight_b122 Q σ16) else (wp_Tr_isPostRight_b123 Q 1 σ16))) else (wp_Tr_isPostRight_b122 Q σ)) → wp_Tr_isPostRight e (nI p) σ Q := fun Q h => hdC Q (by
            rw [cq]
            refine C_near hP rfl rfl hp hq ?_
            rw [if_neg cn, cq, cqq]
            refine ⟨ip, iq, ?_⟩
            refine C_step hP el hl ?_
            rw [cq, cqq]
            exact ⟨iq, h⟩)
          by_cases cs : σ 27 e q 2 + pn_st σ e l = σ 27 e p 2
          · rcases ct_dp h7 hN.par p0 hp hq cq with ⟨k1, k2⟩ | ⟨k1, k2⟩
            · refine ⟨1, Or.inr rfl, fun Q hQ => hdC2 Q ?_, fun k7 Q h0 h1 => hdR k7 Q ?_⟩
              · rw [if_pos cs]
                refine C_comes h7 hP.2.1.1 hN.par hp ?_
                rw [cq, k1, if_neg (by decide)]
                exact ⟨Or.inr rfl, hQ⟩
              · rw [if_pos cs]
                unfold wp_Mo_above
                refine R_dpN h7 hN 7 0 p rfl hp ?_
                rw [if_pos k2]; exact h1 rfl
            · refine ⟨0, Or.inl rfl, fun Q hQ => hdC2 Q ?_, fun k7 Q h0 h1 => hdR k7 Q ?_⟩
              · rw [if_pos cs]
                refine C_comes h7 hP.2.1.1 hN.par hp ?_
                rw [cq, k1, if_pos rfl]
                exact ⟨Or.inl rfl, hQ⟩
              · rw [if_pos cs]
                unfold wp_Mo_above
                refine R_dpN h7 hN 7 0 p rfl hp ?_
                rw [if_neg k2]; exact h0 rfl
          · refine ⟨0, Or.inl rfl, fun Q hQ => hdC2 Q ?_, fun k7 Q h0 h1 => hdR k7 Q ?_⟩
            · rw [if_neg cs]; exact ⟨Or.inl rfl, hQ⟩
            · rw [if_neg cs]; exact h0 rfl
  · refine ⟨0, Or.inl rfl, fun Q hQ => ?_, fun k7 Q h0 h1 => ?_⟩
    · unfold wp_Tr_isPostRight
      rw [cp, c0, if_neg cv]; exact ⟨ip, i0, hQ⟩
    · refine R_of (i := 0) rfl rfl (by omega) (by decide) ?_
      refine R_of (p := 0) (i := 0) rfl rfl (by omega) (by decide) ?_
      rw [f0, f00, if_neg cv]; exact h0 rfl
theorem S_rtLoop (hP : pn_P P L v σ ρ) (hN : pn_N P L m σ e ρ 68 0) (hd9 : ∀ j, d j ≤ 9999) (hC : ∀ j, j < P → σ 33 0 0 j = nI (d j)) (hR : ∀ j, j < P → ρ 74 0 0 j = nI (d j)) : ∀ (c i : Nat), P ≤ i + c → 1 ≤ i → i ≤ 8 →
    ∃ r, pn_z r ∧ (∀ Q : Int32 → sx_M → Prop, Q r σ → ∃ f, wp_Tr_isRight_b2 Q f e (nI i) σ) ∧ (∀ Q : Int32 → sx_M → sx_L → Prop, Q r ρ θ → ∃ f, wp_Mo_isRight_b7 Q f (nI i) ρ θ) := by
  have h7 := hP.1.1
  have done : ∀ i, P ≤ i → i ≤ 8 → ∃ r, pn_z r ∧ (∀ Q : Int32 → sx_M → Prop, Q r σ → ∃ f, wp_Tr_isRight_b2 Q f e (nI i) σ) ∧ (∀ Q : Int32 → sx_M → sx_L → Prop, Q r ρ θ → ∃ f, wp_Mo_isRight_b7 Q f (nI i) ρ θ) := fun i hi h8 => by
    refine ⟨1, Or.inr rfl, fun Q hQ => ⟨1, ?_⟩, fun Q hQ => ⟨1, ?_⟩⟩
    · rw [wp_Tr_isRight_b2, hP.2.1.1, if_pos (nI_le hi (by omega))]; exact hQ
    · rw [wp_Mo_isRight_b7, hP.rP, if_pos (nI_le hi (by omega))]; exact ⟨hP.live.1, hQ⟩
  intro c
  induction c with
  | zero => exact fun i hi h1 h8 => done i hi h8
  | succ c ih =>
    intro i hi h1 h8
    by_cases ci : P ≤ i
    · exact done i ci h8
    have hiP : i < P := by omega
    have cI : (nI i).toNatClampNeg = i := nI_clamp (by omega)
    have ii : vp_in (nI i) 7 := vp_in_nI (by omega) (by decide)
    obtain ⟨r, zr, wC, wR⟩ := ih (i + 1) (by omega) (by omega) (by omega)
    have onz := hN.2.2.2.2.1.1 i hiP
    by_cases co : σ 27 e i 0 = 0
    · refine ⟨r, zr, fun Q hQ => ?_, fun Q hQ => ?_⟩
      · obtain ⟨f, hf⟩ := wC Q hQ
        refine ⟨f + 1, ?_⟩
        rw [wp_Tr_isRight_b2, hP.2.1.1, if_neg (nI_ge hiP (by omega)), cI, if_pos co]
        unfold wp_Tr_isRight_b36
        rw [nI_1]; exact ⟨ii, hf⟩
      · obtain ⟨f, hf⟩ := wR Q hQ
        refine ⟨f + 1, ?_⟩
        rw [wp_Mo_isRight_b7, hP.rP, if_neg (nI_ge hiP (by omega))]
        refine ⟨hP.live.1, R_isOn hN rfl hiP ?_⟩
        unfold wp_Mo_isRight_b126
        rw [if_pos co, nI_1]; exact hf
    · obtain ⟨r1, z1, oC, oR⟩ := S_rtOne (θ := θ) hP hN hd9 hC hR (p := i) (by omega) hiP
      rcases z1 with z1 | z1
      · subst z1
        refine ⟨0, Or.inl rfl, fun Q hQ => ⟨1, ?_⟩, fun Q hQ => ⟨1, ?_⟩⟩
        · rw [wp_Tr_isRight_b2, hP.2.1.1, if_neg (nI_ge hiP (by omega)), cI, if_neg co]
          exact ⟨ii, oC _ (by rw [if_pos rfl]; exact hQ)⟩
        · rw [wp_Mo_isRight_b7, hP.rP, if_neg (nI_ge hiP (by omega))]
          refine ⟨hP.live.1, R_isOn hN rfl hiP ?_⟩
          rw [if_neg co]
          exact oR _ Q (fun _ => hQ) (fun z => absurd z (by decide))
      · subst z1
        refine ⟨r, zr, fun Q hQ => ?_, fun Q hQ => ?_⟩
        · obtain ⟨f, hf⟩ := wC Q hQ
          refine ⟨f + 1, ?_⟩
          rw [wp_Tr_isRight_b2, hP.2.1.1, if_neg (nI_ge hiP (by omega)), cI, if_neg co]
          refine ⟨ii, oC _ ?_⟩
          rw [if_neg (by decide)]
          unfold wp_Tr_isRight_b36
          rw [nI_1]; exact hf
        · obtain ⟨f, hf⟩ := wR Q hQ
          refine ⟨f + 1, ?_⟩
          rw [wp_Mo_isRight_b7, hP.rP, if_neg (nI_ge hiP (by omega))]
          refine ⟨hP.live.1, R_isOn hN rfl hiP ?_⟩
          rw [if_neg co]
          exact oR _ Q (fun z => absurd z (by decide)) (fun _ => by rw [nI_1]; exact hf)
/-- is it right? -/
theorem S_isRight (hP : pn_P P L v σ ρ) (hN : pn_N P L m σ e ρ 68 0) (hC : ∀ j, j < P → σ 33 0 0 j = nI (d j)) (hD : tD P L σ e (-1) d) : ∃ r ρ2, pn_z r ∧ tF 74 ρ ρ2 ∧ (∀ Q : Int32 → sx_M → Prop, Q r σ → wp_Tr_isRight e σ Q) ∧ (∀ Q : Int32 → sx_M → sx_L → Prop, Q r ρ2 θ → wp_Mo_isRight ρ θ Q) := by
  have h7 := hP.1.1
  obtain ⟨ρ2, d2, F2, V2, D2, w2⟩ := R_finds (θ := θ) hP hN (-1)
  have hR : ∀ j, j < P → ρ2 74 0 0 j = nI (d j) := fun j hj => by rw [V2 j (by omega), tD_eq hP hN D2 hD hj]
  obtain ⟨r, zr, wC, wR⟩ := S_rtLoop (θ := θ) (hP.mF F2) (hN.mF F2) (fun j => (hD.1.1.2 j).2) hC hR P 1 (by omega) (by omega) (by omega)
  exact ⟨r, ρ2, zr, F2, wC, fun Q hQ => w2 _ (wR Q hQ)⟩
theorem tF.qc (h : tF 33 σ σ2) : pn_qc σ σ2 := fun k n p q => h k n p (by omega)
theorem pn_qr.tF {ρ0 : sx_M} (q : pn_qr ρ0 ρ) (h : tF 74 ρ ρ2) : pn_qr ρ0 ρ2 := ⟨fun k hk => by rw [h k 0 0 (by omega)]; exact q.1 k hk, fun j hj => by rw [h 50 0 0 (by decide)]; exact q.2.1 j hj, by rw [h 50 0 0 (by decide)]; exact q.2.2⟩
theorem tD.mG (hD : tD P L σ e w d) (hP : pn_P P L v σ ρ) (G : tF 33 σ σ2) : tD P L σ2 e w d := hD.mv hP (fun k n p h1 h2 => G k n p (by omega)) (fun q l hq _ => by rw [G q e 0 (by omega)]) (fun p _ => by rw [G 27 e p (by decide)])
end RIGHT
