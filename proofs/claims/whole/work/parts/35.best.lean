section BEST
variable {P L v m e : Nat} {σ ρ : sx_M} {θ : sx_L}
/-- the parent's offer, as far as the first k are seen; -1: it is none of them -/
def pn_mi (σ : sx_M) (e p : Nat) (as par : Int32) : Nat → Int32
  | 0 => -1
  | k + 1 => if nI k = par ∧ ¬ nI k = as ∧ ¬ pn_of σ e p k = 1000000 then pn_of σ e p k else pn_mi σ e p as par k
def pn_n1 (b : Int32 × Int32) : Int32 := if b.1 = -2 then -1 else b.1
def pn_n0 (b : Int32 × Int32) : Int32 := if b.1 = -2 then 0 else b.2
/-- the row's choice -/
def pn_rc (σ : sx_M) (e p : Nat) (as par : Int32) (P : Nat) : Int32 := if pn_mi σ e p as par P < 0 then pn_n1 (pn_bo σ e p as P) else if σ 14 0 0 3 < pn_mi σ e p as par P - pn_n0 (pn_bo σ e p as P) then pn_n1 (pn_bo σ e p as P) else par
theorem pn_big {x : Nat} (hx : x < 10100) : ¬ nI x = 1000000 := fun z => by
  have := (nI_eq (b := 1000000) (by omega) (by decide)).mp z
  omega
theorem R_bestLoop (hT : pn_T P L v m e σ ρ) {Q : Int32 → sx_M → sx_L → Prop} {p : Nat} (hp : p < P) (as wo par : Int32) (hw : ∀ k, k < P → ¬ pn_nb σ e p k = 0 → (σ 13 0 p k = wo ↔ nI k = as)) (h : Q (pn_rc σ e p as par P) ρ θ) : ∀ (c d : Nat), d + c = P → ∃ f, wp_Mo_bestOf_b19 Q f (nI p) wo (pn_n1 (pn_bo σ e p as d)) (pn_n0 (pn_bo σ e p as d)) (pn_mi σ e p as par d) par (nI d) ρ θ
  | 0, d, hd => by
    have h7 := hT.p7
    refine ⟨1, ?_⟩
    have hd2 : d = P := by omega
    subst hd2
    rw [wp_Mo_bestOf_b19, hT.2.1.rP, if_pos (nI_le (Nat.le_refl _) (by omega))]
    unfold wp_Mo_bestOf_b165 wp_Mo_bestOf_b166
    unfold pn_rc at h
    refine ⟨hT.2.1.live.1, ?_⟩
    by_cases c : pn_mi σ e p as par d < 0
    · rw [if_pos c] at h ⊢; exact h
    · rw [if_neg c] at h ⊢
      refine R_setting hT.2.1 (i := 3) rfl (by decide) ?_
      by_cases c2 : σ 14 0 0 3 < pn_mi σ e p as par d - pn_n0 (pn_bo σ e p as d)
      · rw [if_pos c2] at h ⊢; exact h
      · rw [if_neg c2] at h ⊢; exact h
  | c + 1, d, hd => by
    have h7 := hT.p7
    have hv := hT.2.1.1.2.2
    have hdP : d < P := by omega
    obtain ⟨f, hf⟩ := R_bestLoop hT hp as wo par hw h c (d + 1) (by omega)
    refine ⟨f + 1, ?_⟩
    have e1 : ((96 : Int32) + (7 * nI p)) + nI d = nI (96 + 7 * p + d) := ix_2 96 7 p d
    have e2 : ((49 * (ρ 50 0 0 17)) + (7 * nI p)) + nI d = nI (49 * v + 7 * p + d) := by rw [hT.2.1.2.1.2.2.1]; exact ix_3 49 v 7 p d
    rw [wp_Mo_bestOf_b19, hT.2.1.rP, if_neg (nI_ge hdP (by omega)), e1, nI_clamp (n := 96 + 7 * p + d) (by omega), (hT.rt hp hdP).1]
    refine ⟨hT.2.1.live.1, vp_in_nI (by omega) (by decide), ?_⟩
    refine R_near hT.2.1 hT.2.2.1 rfl rfl hp hdP ?_
    have bv := pn_bo_v hT.2.1 hT.2.2.1 hp as d (by omega)
    -- when d is no candidate
    have skip : (if nI d = as then 1000000 else pn_of σ e p d) = 1000000 → wp_Mo_bestOf_b136 (wp_Mo_bestOf_b19 Q f) Q (nI p) wo (pn_n1 (pn_bo σ e p as d)) (pn_n0 (pn_bo σ e p as d)) (pn_mi σ e p as par d) par (nI d) ρ θ := by
      intro ho
      unfold wp_Mo_bestOf_b136
      rw [nI_1]
      have b1 : pn_bo σ e p as (d + 1) = pn_bo σ e p as d := by
        conv => lhs; unfold pn_bo
        rw [ho, if_pos]
        rcases bv with hb | ⟨q, x, h1, h2, h3, h4, h5⟩
        · rw [hb]; decide
        · rw [h4]; exact nI_le (a := x) (b := 1000000) (by omega) (by decide)
      have m1 : pn_mi σ e p as par (d + 1) = pn_mi σ e p as par d := by
        conv => lhs; unfold pn_mi
        rw [if_neg]
        rintro ⟨z1, z2, z3⟩
        rw [if_neg z2] at ho
        exact z3 ho
      rw [b1, m1] at hf
      exact hf
    by_cases c1 : pn_nb σ e p d = 0
    · rw [if_pos c1]
      refine skip ?_
      by_cases c0 : nI d = as
      · rw [if_pos c0]
      · rw [if_neg c0]; unfold pn_of; rw [if_pos c1]; split <;> rfl
    · rw [if_neg c1]
      by_cases c2 : 9999 ≤ σ 28 e p d
      · rw [if_pos c2]
        refine skip ?_
        by_cases c0 : nI d = as
        · rw [if_pos c0]
        · rw [if_neg c0]; unfold pn_of; rw [if_pos c2]
      · rw [if_neg c2, e2, nI_clamp (n := 49 * v + 7 * p + d) (by omega), (hT.2.1.2.2.2.2.2.1 p d hp hdP).1]
        refine ⟨vp_in_nI (by omega) (by decide), ?_⟩
        by_cases c3 : σ 13 0 p d = wo
        · rw [if_pos c3]
          exact skip (if_pos ((hw d hdP c1).mp c3))
        · rw [if_neg c3]
          have c0 : ¬ nI d = as := fun z => c3 ((hw d hdP c1).mpr z)
          obtain ⟨l, hl, el, ecl⟩ := pn_nb_l hT.2.1 hp hdP c1
          refine R_stepTo hT.2.1 hT.2.2.1 rfl rfl hp hdP el hl ?_
          have eo : pn_of σ e p d = σ 28 e p d + pn_st σ e l := by unfold pn_of; rw [if_neg c2, if_neg c1, ecl]
          rw [← eo]
          obtain ⟨x, hx, ex⟩ := (pn_of_v hT.2.1 hT.2.2.1 hp hdP).resolve_left (by
            intro z
            have hh := pn_of_v hT.2.1 hT.2.2.1 hp hdP
            rcases (hT.2.2.1.2.2.2.2.2.2.2.2.2.2.2.1 p d hp hdP).1 with ⟨q, hq, eq⟩
            rw [eo, eq] at z
            have hq2 : q < 9999 := Nat.lt_of_not_le fun y => c2 (by rw [eq]; exact nI_le y (by omega))
            unfold pn_st at z
            by_cases c8 : σ 8 0 0 7 = 0
            · rw [if_pos c8] at z
              have : nI (q + 10) = nI 1000000 := by rw [← nI_add]; exact z
              have := (nI_eq (by omega) (by decide)).mp this
              omega
            · rw [if_neg c8] at z
              obtain ⟨cc, c4, c5, c6⟩ := (hT.2.2.1.2.2.2.2.2.1 l hl).2
              rw [c6] at z
              have : nI (q + 10 * cc) = nI 1000000 := by rw [← nI_add, ← pk_mul]; exact z
              have := (nI_eq (by omega) (by decide)).mp this
              omega)
          have m1 : pn_mi σ e p as par (d + 1) = if nI d = par then pn_of σ e p d else pn_mi σ e p as par d := by
            conv => lhs; unfold pn_mi
            by_cases c5 : nI d = par
            · rw [if_pos c5, if_pos ⟨c5, c0, by rw [ex]; exact pn_big hx⟩]
            · rw [if_neg c5, if_neg (fun z => c5 z.1)]
          have fin : ∀ b : Int32 × Int32, b = pn_bo σ e p as (d + 1) → wp_Mo_bestOf_b125 (wp_Mo_bestOf_b19 Q f) Q (nI p) wo (pn_n1 b) (pn_n0 b) (pn_mi σ e p as par d) par (nI d) (pn_of σ e p d) ρ θ := by
            intro b hb
            subst hb
            unfold wp_Mo_bestOf_b125 wp_Mo_bestOf_b136
            rw [nI_1]
            rw [m1] at hf
            by_cases c5 : nI d = par
            · rw [if_pos c5] at hf ⊢; exact hf
            · rw [if_neg c5] at hf ⊢; exact hf
          have b1 : pn_bo σ e p as (d + 1) = if (pn_bo σ e p as d).2 ≤ pn_of σ e p d then pn_bo σ e p as d else (nI d, pn_of σ e p d) := by
            conv => lhs; unfold pn_bo
            rw [if_neg c0]
          have d2 : ¬ nI d = -2 := pn_m2 (by omega)
          rcases bv with hb | ⟨q, y, h1, h2, h3, h4, h5⟩
          · -- nobody yet
            have b2 : pn_bo σ e p as (d + 1) = (nI d, pn_of σ e p d) := by
              rw [b1, hb, if_neg]
              rw [ex]
              exact nI_ge (a := x) (b := 1000000) (by omega) (by decide)
            have := fin _ b2.symm
            rw [hb]
            rw [if_pos (by decide)]
            unfold wp_Mo_bestOf_b118
            simpa [pn_n1, pn_n0, d2] using this
          · have q2 : ¬ nI q = -2 := pn_m2 (by omega)
            have n1 : pn_n1 (pn_bo σ e p as d) = nI q := by rw [h4]; simp [pn_n1, q2]
            have n0 : pn_n0 (pn_bo σ e p as d) = nI y := by rw [h4]; simp [pn_n0, q2]
            rw [n1, n0, if_neg (nI_pos (by omega))]
            by_cases c6 : nI y ≤ pn_of σ e p d
            · rw [if_pos c6]
              have b2 : pn_bo σ e p as (d + 1) = pn_bo σ e p as d := by rw [b1, h4, if_pos c6]
              have := fin _ b2.symm
              rw [n1, n0] at this
              exact this
            · rw [if_neg c6]
              have b2 : pn_bo σ e p as (d + 1) = (nI d, pn_of σ e p d) := by rw [b1, h4, if_neg c6]
              have := fin _ b2.symm
              unfold wp_Mo_bestOf_b118
              simpa [pn_n1, pn_n0, d2] using this
theorem R_best (hT : pn_T P L v m e σ ρ) {Q : Int32 → sx_M → sx_L → Prop} {p : Nat} (hp : p < P) (as wo : Int32) (hw : ∀ k, k < P → ¬ pn_nb σ e p k = 0 → (σ 13 0 p k = wo ↔ nI k = as)) (h : Q (pn_rc σ e p as (σ 27 e p 3) P) ρ θ) : wp_Mo_bestOf (nI p) wo ρ θ Q := by
  have h7 := hT.p7
  unfold wp_Mo_bestOf
  refine R_of (i := 2) rfl rfl (by omega) (by decide) ?_
  rw [hT.fld hp (w := 2) (by decide)]
  exact R_bestLoop hT hp as wo _ hw h P 0 (by omega)
theorem pn_bo_some {p : Nat} (hp : p < P) (hT : pn_T P L v m e σ ρ) {as : Int32} {q : Nat} (hq : ¬ nI q = as) (hqP : q < P) (ho : ¬ pn_of σ e p q = 1000000) : ∀ k, q < k → k ≤ P → ¬ pn_bo σ e p as k = (-2, 1000000)
  | 0, h, _ => absurd h (Nat.not_lt_zero q)
  | k + 1, h, hk => by
    have h7 := hT.p7
    have k2 : ¬ nI k = -2 := pn_m2 (by omega)
    unfold pn_bo
    by_cases c : (pn_bo σ e p as k).2 ≤ (if nI k = as then 1000000 else pn_of σ e p k)
    · rw [if_pos c]
      by_cases e1 : q = k
      · subst e1
        rw [if_neg hq] at c
        intro z
        rw [z] at c
        obtain ⟨x, hx, ex⟩ := (pn_of_v hT.2.1 hT.2.2.1 hp hqP).resolve_left ho
        rw [ex] at c
        exact nI_ge (a := x) (b := 1000000) (by omega) (by decide) c
      · exact pn_bo_some hp hT hq hqP ho k (by omega) (by omega)
    · rw [if_neg c]
      intro z
      exact k2 (congrArg Prod.fst z)
/-- the choice of the net -/
def pn_kp (σ : sx_M) (e p : Nat) (b : Int32) : Int32 := if σ 27 e p 3 = -2 then 0 else if b = -2 then 0 else if 1000000 ≤ pn_of σ e p (σ 27 e p 3).toNatClampNeg then 0 else if σ 14 0 0 3 < pn_of σ e p (σ 27 e p 3).toNatClampNeg - pn_of σ e p b.toNatClampNeg then 0 else 1
def pn_c (σ : sx_M) (e p P : Nat) : Int32 := if pn_kp σ e p (pn_bo σ e p (-2) P).1 = 0 then (pn_bo σ e p (-2) P).1 else σ 27 e p 3
theorem C_isKept (hT : pn_T P L v m e σ ρ) {Q : Int32 → sx_M → Prop} {p : Nat} (hp : p < P) {b : Int32} (hb : pn_o P b) (h : Q (pn_kp σ e p b) σ) : wp_En_isKept e (nI p) b σ Q := by
  have h7 := hT.p7
  have ho := (hT.2.2.1.2.2.2.2.2.2.2.2.2.2.1 p hp).2.2.1
  unfold wp_En_isKept wp_En_isKept_b73 wp_En_isKept_b74 wp_En_isKept_b25
  rw [nI_clamp (n := p) (by omega)]
  refine ⟨vp_in_nI (by omega) (by decide), ?_⟩
  unfold pn_kp at h
  by_cases c1 : σ 27 e p 3 = -2
  · rw [if_pos c1] at h ⊢; exact h
  · rw [if_neg c1] at h ⊢
    by_cases c2 : b = -2
    · rw [if_pos c2] at h ⊢; exact h
    · rw [if_neg c2] at h ⊢
      obtain ⟨q, hq, eq⟩ := ho.resolve_left c1
      obtain ⟨r, hr, er⟩ := hb.resolve_left c2
      rw [eq, er, nI_clamp (n := q) (by omega), nI_clamp (n := r) (by omega)] at h
      refine C_offer hT.2.1 rfl eq hp hq ?_
      by_cases c3 : 1000000 ≤ pn_of σ e p q
      · rw [if_pos c3] at h ⊢; exact ⟨Or.inl rfl, h⟩
      · rw [if_neg c3] at h ⊢
        refine C_offer hT.2.1 rfl er hp hr ?_
        refine ⟨in_I (n := 3) rfl (by decide) (by decide), ?_⟩
        show if σ 14 0 0 3 < _ then _ else _
        by_cases c4 : σ 14 0 0 3 < pn_of σ e p q - pn_of σ e p r
        · rw [if_pos c4] at h ⊢; exact ⟨Or.inl rfl, h⟩
        · rw [if_neg c4] at h ⊢; exact ⟨Or.inr rfl, h⟩
/-- the choice is nobody, or one that offers -/
theorem pn_c_v (hT : pn_T P L v m e σ ρ) {p : Nat} (hp : p < P) : pn_c σ e p P = -2 ∨ ∃ q x, q < P ∧ x < 10100 ∧ pn_c σ e p P = nI q ∧ pn_of σ e p q = nI x := by
  have h7 := hT.p7
  have ho := (hT.2.2.1.2.2.2.2.2.2.2.2.2.2.1 p hp).2.2.1
  unfold pn_c
  by_cases c : pn_kp σ e p (pn_bo σ e p (-2) P).1 = 0
  · rw [if_pos c]
    rcases pn_bo_v hT.2.1 hT.2.2.1 hp (-2) P (Nat.le_refl _) with h | ⟨q, x, h1, h2, h3, h4, h5⟩
    · rw [h]; exact Or.inl rfl
    · rw [h4]; exact Or.inr ⟨q, x, h1, h2, rfl, h5⟩
  · rw [if_neg c]
    unfold pn_kp at c
    by_cases c1 : σ 27 e p 3 = -2
    · exact Or.inl c1
    · rw [if_neg c1] at c
      obtain ⟨q, hq, eq⟩ := ho.resolve_left c1
      by_cases c2 : (pn_bo σ e p (-2) P).1 = -2
      · rw [if_pos c2] at c; exact absurd rfl c
      · rw [if_neg c2, eq, nI_clamp (n := q) (by omega)] at c
        by_cases c3 : 1000000 ≤ pn_of σ e p q
        · rw [if_pos c3] at c; exact absurd rfl c
        · rcases pn_of_v hT.2.1 hT.2.2.1 hp hq with h | ⟨x, hx, ex⟩
          · rw [h] at c3; exact absurd (by decide) c3
          · exact Or.inr ⟨q, x, hq, hx, eq, ex⟩
/-- both choose alike -/
theorem pn_mi_v (hT : pn_T P L v m e σ ρ) {p : Nat} (hp : p < P) {q : Nat} (hq : q < P) : ∀ k, k ≤ P → pn_mi σ e p (-2) (nI q) k = if q < k ∧ ¬ pn_of σ e p q = 1000000 then pn_of σ e p q else -1
  | 0, _ => by rw [if_neg (fun z => Nat.not_lt_zero _ z.1)]; rfl
  | k + 1, hk => by
    have h7 := hT.p7
    have ih := pn_mi_v hT hp hq k (by omega)
    unfold pn_mi
    by_cases c : k = q
    · subst c
      by_cases c2 : pn_of σ e p k = 1000000
      · rw [if_neg (fun z => z.2.2 c2), ih, if_neg (fun z => z.2 c2), if_neg (fun z => z.2 c2)]
      · rw [if_pos ⟨rfl, pn_m2 (by omega), c2⟩, if_pos ⟨Nat.lt_succ_self k, c2⟩]
    · rw [if_neg (fun z => c ((nI_eq (by omega) (by omega)).mp z.1)), ih]
      by_cases c2 : q < k
      · by_cases c3 : pn_of σ e p q = 1000000
        · rw [if_neg (fun z => z.2 c3), if_neg (fun z => z.2 c3)]
        · rw [if_pos ⟨c2, c3⟩, if_pos ⟨by omega, c3⟩]
      · rw [if_neg (fun z => c2 z.1), if_neg (fun z => c2 (by omega))]
theorem pn_mi_n {p : Nat} : ∀ k, k ≤ 7 → pn_mi σ e p (-2) (-2) k = -1
  | 0, _ => rfl
  | k + 1, hk => by
    unfold pn_mi
    rw [if_neg (fun z => pn_m2 (q := k) (by omega) z.1)]
    exact pn_mi_n k (by omega)
theorem pn_cc (hT : pn_T P L v m e σ ρ) {p : Nat} (hp : p < P) : pn_rc σ e p (-2) (σ 27 e p 3) P = if pn_c σ e p P = -2 then -1 else pn_c σ e p P := by
  have h7 := hT.p7
  have ho := (hT.2.2.1.2.2.2.2.2.2.2.2.2.2.1 p hp).2.2.1
  have bv := pn_bo_v hT.2.1 hT.2.2.1 hp (-2) P (Nat.le_refl _)
  by_cases c1 : σ 27 e p 3 = -2
  · have kp : pn_kp σ e p (pn_bo σ e p (-2) P).1 = 0 := by unfold pn_kp; rw [if_pos c1]
    unfold pn_rc pn_c
    rw [kp, if_pos rfl, c1, pn_mi_n P h7, if_pos (by decide)]
    rfl
  · obtain ⟨q, hq, eq⟩ := ho.resolve_left c1
    have q2 : ¬ nI q = -2 := pn_m2 (by omega)
    rcases pn_of_v hT.2.1 hT.2.2.1 hp hq with h | ⟨x, hx, ex⟩
    · have kp : pn_kp σ e p (pn_bo σ e p (-2) P).1 = 0 := by
        unfold pn_kp
        rw [if_neg c1]
        by_cases c2 : (pn_bo σ e p (-2) P).1 = -2
        · rw [if_pos c2]
        · rw [if_neg c2, eq, nI_clamp (n := q) (by omega), h, if_pos (by decide)]
      have mi : pn_mi σ e p (-2) (nI q) P = -1 := by rw [pn_mi_v hT hp hq P (Nat.le_refl _), if_neg (fun z => z.2 h)]
      unfold pn_rc pn_c
      rw [kp, if_pos rfl, eq, mi, if_pos (by decide)]
      rfl
    · have hne : ¬ pn_of σ e p q = 1000000 := by rw [ex]; exact pn_big hx
      have hb := pn_bo_some hp hT q2 hq hne P hq (Nat.le_refl _)
      obtain ⟨r, y, h1, h2, h3, h4, h5⟩ := bv.resolve_left hb
      have r2 : ¬ nI r = -2 := pn_m2 (by omega)
      have mi : pn_mi σ e p (-2) (nI q) P = nI x := by rw [pn_mi_v hT hp hq P (Nat.le_refl _), if_pos ⟨hq, hne⟩, ex]
      have b1 : (pn_bo σ e p (-2) P).1 = nI r := by rw [h4]
      have n1 : pn_n1 (pn_bo σ e p (-2) P) = nI r := by unfold pn_n1; rw [b1, if_neg r2]
      have n0 : pn_n0 (pn_bo σ e p (-2) P) = nI y := by unfold pn_n0; rw [b1, if_neg r2, h4]
      have kp : pn_kp σ e p (pn_bo σ e p (-2) P).1 = if σ 14 0 0 3 < nI x - nI y then 0 else 1 := by
        unfold pn_kp
        rw [if_neg c1, b1, if_neg r2, eq, nI_clamp (n := q) (by omega), ex, if_neg (show ¬ (1000000 : Int32) ≤ nI x from nI_ge (a := x) (b := 1000000) (by omega) (by decide)), nI_clamp (n := r) (by omega), h5]
      unfold pn_rc pn_c
      rw [kp, eq, mi, n1, n0, b1, if_neg (nI_pos (n := x) (by omega))]
      by_cases c4 : σ 14 0 0 3 < nI x - nI y
      · rw [if_pos c4, if_pos c4, if_pos rfl, if_neg r2]
      · rw [if_neg c4, if_neg c4, if_neg (show ¬ (1 : Int32) = 0 by decide), if_neg q2]
end BEST
