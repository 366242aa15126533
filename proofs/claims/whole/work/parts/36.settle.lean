theorem sx_u_comm (σ : sx_M) (k n p : Nat) {i j : Nat} (h : ¬ i = j) (x y : Int32) : sx_u (sx_u σ k n p i x) k n p j y = sx_u (sx_u σ k n p j y) k n p i x := by
  funext a b c d
  simp only [sx_u_at]
  by_cases h1 : a = k ∧ b = n ∧ c = p ∧ d = j
  · obtain ⟨rfl, rfl, rfl, rfl⟩ := h1
    simp [Ne.symm h]
  · by_cases h2 : a = k ∧ b = n ∧ c = p ∧ d = i
    · obtain ⟨rfl, rfl, rfl, rfl⟩ := h2
      simp [h]
    · rw [if_neg h1, if_neg h2, if_neg h2, if_neg h1]
theorem sx_u_id (σ : sx_M) (k n p i : Nat) {x : Int32} (h : x = σ k n p i) : sx_u σ k n p i x = σ := by
  funext a b c d
  simp only [sx_u_at]
  by_cases h1 : a = k ∧ b = n ∧ c = p ∧ d = i
  · obtain ⟨rfl, rfl, rfl, rfl⟩ := h1
    rw [if_pos ⟨rfl, rfl, rfl, rfl⟩, h]
  · rw [if_neg h1]
section SETTLE
variable {P L v m e : Nat} {σ ρ : sx_M} {θ : sx_L}
/-- the counters of the row, one more -/
theorem pn_T.cnt (hT : pn_T P L v m e σ ρ) {f : Nat} (hf : f < 7) : pn_T P L v m e (sx_u σ 16 e 0 (f + 1) (σ 16 e 0 (f + 1) + 1)) (sx_u ρ 68 0 0 f (ρ 68 0 0 f + 1)) := by
  obtain ⟨he, hP, hN, hs⟩ := hT
  have f1 : pn_f e σ (sx_u σ 16 e 0 (f + 1) (σ 16 e 0 (f + 1) + 1)) := pn_f.rf.u ⟨by omega, rfl⟩
  have g1 : pn_g ρ (sx_u ρ 68 0 0 f (ρ 68 0 0 f + 1)) := pn_g.rf.u rfl
  have hm := hN.2.2.1
  refine ⟨he, hP.mv f1 g1, ?_, by rw [f1.1 31 e 0 (by omega), g1 50 0 0 (by omega)]; exact hs⟩
  refine hN.put (fun q p hq => ?_) (fun j h1 h2 => ?_) (fun g hg => ?_) ⟨hm.1, ?_, ?_⟩ (fun i hi => ?_)
  · rw [sx_u_row _ _ _ _ _ _ (by omega)]
  · rw [sx_u_at, if_neg (by omega)]
  · have a := hN.2.1 g hg
    have b := hN.2.1 f hf
    rw [Nat.zero_add] at a b ⊢
    by_cases c : g = f
    · subst c
      rw [sx_u_at, sx_u_at, if_pos ⟨rfl, rfl, rfl, rfl⟩, if_pos ⟨rfl, rfl, rfl, rfl⟩, a]
    · rw [sx_u_at, sx_u_at, if_neg (by omega), if_neg (by omega)]; exact a
  · rw [sx_u_at, if_neg (by omega)]; exact hm.2.1
  · rw [sx_u_row _ _ _ _ _ _ (by omega)]; exact hm.2.2
  · have := hN.2.2.2.2.2.2.2.2.2.1 i hi
    rw [sx_u_row _ _ _ _ _ _ (by omega), sx_u_row _ _ _ _ _ _ (by omega), sx_u_row _ _ _ _ _ _ (by omega), sx_u_row _ _ _ _ _ _ (by omega), sx_u_row _ _ _ _ _ _ (by omega), sx_u_row _ _ _ _ _ _ (by omega), sx_u_at, sx_u_at, if_neg (by omega), if_neg (by omega)]
    exact this
/-- fields 2, 3, 4 (rank, parent, lowest), 5 (rests) of a post, and the counters, may have changed -/
def pn_h (e p : Nat) (σ σ2 : sx_M) : Prop := (∀ q p', (q = 18 ∨ q = 19 ∨ 28 ≤ q) → σ2 q e p' = σ q e p') ∧ (∀ p' j, (¬ p' = p ∨ ¬ (2 ≤ j ∧ j ≤ 5)) → σ2 27 e p' j = σ 27 e p' j) ∧ σ2 16 e 0 1 = σ 16 e 0 1
theorem pn_h.u {e p : Nat} {σ σ2 : sx_M} (h : pn_h e p σ σ2) {j : Nat} (hj : 2 ≤ j ∧ j ≤ 5) {x : Int32} : pn_h e p σ (sx_u σ2 27 e p j x) := by
  refine ⟨fun q p' hq => ?_, fun p' i hi => ?_, ?_⟩
  · rw [sx_u_row _ _ _ _ _ _ (by omega)]; exact h.1 q p' hq
  · rw [sx_u_at, if_neg (by omega)]; exact h.2.1 p' i hi
  · rw [sx_u_row _ _ _ _ _ _ (by omega)]; exact h.2.2
theorem pn_h.rf {e p : Nat} {σ : sx_M} : pn_h e p σ σ := ⟨fun _ _ _ => rfl, fun _ _ _ => rfl, rfl⟩
/-- what the row goes on with behind its settling -/
def pn_R (Q : sx_M → sx_L → Prop) (p v2 v3 r t : Int32) (ρ : sx_M) (θ : sx_L) : Prop := if r = v2 then wp_Mo_chooses_b205 Q p v3 t ρ θ else wp_Mo_beginsAnew p ρ θ (fun ρ10 θ10 => wp_Mo_chooses_b205 Q p v3 t ρ10 θ10)
theorem S_settle (hT : pn_T P L v m e σ ρ) {p : Nat} (hp : p < P) (h0 : 0 < p) {c o : Int32} (hc : (c = -2 ∧ o = 9999) ∨ ∃ q x, q < P ∧ x < 10100 ∧ c = nI q ∧ pn_of σ e p q = nI x ∧ o = nI x) (v2 v3 : Int32) :
    ∃ σ2 ρ2, pn_T P L v m e σ2 ρ2 ∧ pn_f e σ σ2 ∧ pn_g ρ ρ2 ∧ pn_h e p σ σ2 ∧ ((σ2 27 e p 3 = c ∧ σ2 27 e p 2 = o ∧ σ2 27 e p 4 = (if o < σ 27 e p 4 then o else σ 27 e p 4) ∧ (c = -2 ∨ o ≤ σ 27 e p 4 + σ 14 0 0 4)) ∨ σ2 27 e p 5 = σ 14 0 0 5) ∧ (∀ Q : sx_M → Prop, Q σ2 → wp_En_settle e (nI p) c σ Q) ∧ (∀ Q : sx_M → sx_L → Prop, pn_R Q (nI p) v2 v3 (σ2 27 e p 2) (σ2 27 e p 3) ρ2 θ → wp_Mo_chooses_b78 Q (nI p) v2 v3 (if c = -2 then -1 else c) o ρ θ) := by
  have h7 := hT.p7
  have no : ∀ {A : Prop} {i j : Nat}, i ≠ j → i = j → A := fun h1 h2 => absurd h2 h1
  have ip : vp_in (nI p) 7 := vp_in_nI (by omega) (by decide)
  have cp : (nI p).toNatClampNeg = p := nI_clamp (by omega)
  obtain ⟨lw, hlw, elw⟩ := (hT.2.2.1.2.2.2.2.2.2.2.2.2.2.1 p hp).2.2.2.1
  have elr : ρ 68 0 0 (26 + 10 * p + 3) = σ 27 e p 4 := hT.fld hp (w := 3) (by decide)
  -- the case without poison: parent c, rank o, lowest the lesser
  have plain : pn_o P c → pn_r 20000 o → ∀ lo : Int32, (lo = if o < σ 27 e p 4 then o else σ 27 e p 4) → pn_r 9999 lo →
      ∃ σ2 ρ2, pn_T P L v m e σ2 ρ2 ∧ pn_f e σ σ2 ∧ pn_g ρ ρ2 ∧ pn_h e p σ σ2 ∧ σ2 27 e p 3 = c ∧ σ2 27 e p 2 = o ∧ σ2 27 e p 4 = lo ∧ (∀ Q : sx_M → Prop, Q σ2 → wp_En_settle_b107 e Q c e p o σ) ∧ ρ2 = sx_u (sx_u (sx_u ρ 68 0 0 (26 + 10 * p + 3) lo) 68 0 0 (26 + 10 * p + 1) o) 68 0 0 (26 + 10 * p + 2) c := by
    intro hco hor lo hlo hlor
    have T1 := hT.setP (w0 := 2) (x := c) hp (by decide) (no (by decide)) (no (by decide)) (fun _ => ⟨hco, h0⟩) (no (by decide)) (no (by decide))
    have T2 := T1.setP (w0 := 1) (x := o) hp (by decide) (no (by decide)) (fun _ => hor) (no (by decide)) (no (by decide)) (no (by decide))
    have T3 := T2.setP (w0 := 3) (x := lo) hp (by decide) (no (by decide)) (no (by decide)) (no (by decide)) (fun _ => hlor) (no (by decide))
    refine ⟨_, _, T3, ?_, ?_, ((pn_h.rf.u (by decide)).u (by decide)).u (by decide), by simp [sx_u_at], by simp [sx_u_at], by simp [sx_u_at], fun Q hQ => ?_, ?_⟩
    · refine pn_f.u (pn_f.u (pn_f.u pn_f.rf ?_) ?_) ?_ <;> exact ⟨by omega, rfl⟩
    · refine pn_g.u (pn_g.u (pn_g.u pn_g.rf ?_) ?_) ?_ <;> rfl
    · unfold wp_En_settle_b107 wp_En_settle_b131
      intro _ q; subst q
      intro _ q; subst q
      intro _ q
      have e4 : sx_u (sx_u σ 27 e p 3 c) 27 e p 2 o 27 e p 4 = σ 27 e p 4 := by simp [sx_u_at]
      rw [e4, ← hlo] at q
      subst q
      exact hQ
    · rw [sx_u_comm ρ 68 0 0 (i := 26 + 10 * p + 2) (j := 26 + 10 * p + 1) (by omega), sx_u_comm (sx_u ρ 68 0 0 (26 + 10 * p + 1) o) 68 0 0 (i := 26 + 10 * p + 2) (j := 26 + 10 * p + 3) (by omega), sx_u_comm ρ 68 0 0 (i := 26 + 10 * p + 1) (j := 26 + 10 * p + 3) (by omega)]
  rcases hc with ⟨rfl, rfl⟩ | ⟨q, x, hq, hx, rfl, eo, rfl⟩
  · -- nobody
    have hlo : σ 27 e p 4 = if (9999 : Int32) < σ 27 e p 4 then 9999 else σ 27 e p 4 := by
      rw [if_neg]
      rw [elw]
      exact nI_nlt (a := 9999) (b := lw) (by omega) (by decide)
    obtain ⟨σ2, ρ2, T2, f2, g2, k2, e3, e2, e4, wC, er⟩ := plain (Or.inl rfl) ⟨9999, by decide, rfl⟩ (σ 27 e p 4) hlo ⟨lw, hlw, elw⟩
    refine ⟨σ2, ρ2, T2, f2, g2, k2, Or.inl ⟨e3, e2, e4.trans hlo, Or.inl rfl⟩, fun Q hQ => ?_, fun Q hQ => ?_⟩
    · unfold wp_En_settle wp_En_settle_b31
      rw [cp, if_pos rfl, if_pos rfl]
      exact ⟨ip, wC Q hQ⟩
    · rw [if_pos rfl]
      unfold wp_Mo_chooses_b78 wp_Mo_chooses_b140 wp_Mo_chooses_b164 wp_Mo_chooses_b176
      rw [if_pos (by decide), if_pos (by decide), if_neg (by decide)]
      refine R_keeps (i := 1) rfl rfl (by omega) (by decide) ?_
      refine R_keeps (i := 2) rfl rfl (by omega) (by decide) ?_
      rw [e2, e3] at hQ
      have : sx_u ρ 68 0 0 (26 + 10 * p + 3) (σ 27 e p 4) = ρ := sx_u_id _ _ _ _ _ elr.symm
      rw [er, this] at hQ
      exact hQ
  · have q2 : ¬ nI q = -2 := pn_m2 (by omega)
    obtain ⟨rs, hrs, ers⟩ := (hT.2.1.2.2.2.1 4 (by decide)).2
    have i4 : vp_in 4 9 := in_I (n := 4) rfl (by decide) (by decide)
    have i5 : vp_in 5 9 := in_I (n := 5) rfl (by decide) (by decide)
    by_cases c1 : nI x ≤ σ 27 e p 4 + σ 14 0 0 4
    · -- it stands
      have hlor : pn_r 9999 (if nI x < σ 27 e p 4 then nI x else σ 27 e p 4) := by
        by_cases c2 : nI x < σ 27 e p 4
        · rw [if_pos c2]
          rw [elw] at c2
          have := (nI_ltI (by omega) (by omega)).mp c2
          exact ⟨x, by omega, rfl⟩
        · rw [if_neg c2]; exact ⟨lw, hlw, elw⟩
      obtain ⟨σ2, ρ2, T2, f2, g2, k2, e3, e2, e4, wC, er⟩ := plain (Or.inr ⟨q, hq, rfl⟩) ⟨x, by omega, rfl⟩ _ rfl hlor
      refine ⟨σ2, ρ2, T2, f2, g2, k2, Or.inl ⟨e3, e2, e4, Or.inr c1⟩, fun Q hQ => ?_, fun Q hQ => ?_⟩
      · unfold wp_En_settle
        rw [cp, if_neg q2]
        refine ⟨ip, C_offer hT.2.1 rfl rfl hp hq ?_⟩
        unfold wp_En_settle_b31
        rw [eo, if_neg q2]
        refine ⟨i4, ?_⟩
        show if nI x ≤ σ 27 e p 4 + σ 14 0 0 4 then _ else _
        rw [if_pos c1]
        exact wC Q hQ
      · rw [if_neg q2]
        unfold wp_Mo_chooses_b78
        rw [if_neg (nI_pos (by omega))]
        refine R_of (i := 3) rfl rfl (by omega) (by decide) ?_
        refine R_setting hT.2.1 (i := 4) rfl (by decide) ?_
        rw [elr, if_pos c1]
        unfold wp_Mo_chooses_b140
        rw [if_neg (nI_pos (by omega))]
        refine R_of (i := 3) rfl rfl (by omega) (by decide) ?_
        rw [elr]
        rw [e2, e3, er] at hQ
        have go : ∀ ρ3 : sx_M, pn_R Q (nI p) v2 v3 (nI x) (nI q) (sx_u (sx_u ρ3 68 0 0 (26 + 10 * p + 1) (nI x)) 68 0 0 (26 + 10 * p + 2) (nI q)) θ → wp_Mo_chooses_b164 Q (nI p) v2 v3 (nI q) (nI x) ρ3 θ := by
          intro ρ3 h3
          unfold wp_Mo_chooses_b164 wp_Mo_chooses_b176
          rw [if_pos (nI_pos' (by omega))]
          refine R_keeps (i := 1) rfl rfl (by omega) (by decide) ?_
          refine R_keeps (i := 2) rfl rfl (by omega) (by decide) ?_
          exact h3
        by_cases c2 : nI x < σ 27 e p 4
        · rw [if_neg (fun z => by
            have a := Int32.lt_iff_toInt_lt.mp c2
            have b := Int32.le_iff_toInt_le.mp z
            omega)]
          refine R_keeps (i := 3) rfl rfl (by omega) (by decide) ?_
          rw [if_pos c2] at hQ
          exact go _ hQ
        · rw [if_pos (by
            have a : ¬ (nI x).toInt < (σ 27 e p 4).toInt := fun z => c2 (Int32.lt_iff_toInt_lt.mpr z)
            exact Int32.le_iff_toInt_le.mpr (by omega))]
          rw [if_neg c2] at hQ
          have : sx_u ρ 68 0 0 (26 + 10 * p + 3) (σ 27 e p 4) = ρ := sx_u_id _ _ _ _ _ elr.symm
          rw [this] at hQ
          exact go _ hQ
    · -- poison
      have T1 := hT.setP (w0 := 2) (x := -2) hp (by decide) (no (by decide)) (no (by decide)) (fun _ => ⟨Or.inl rfl, h0⟩) (no (by decide)) (no (by decide))
      have T2 := T1.setP (w0 := 1) (x := 9999) hp (by decide) (no (by decide)) (fun _ => ⟨9999, by decide, rfl⟩) (no (by decide)) (no (by decide)) (no (by decide))
      have T3 := T2.setP (w0 := 3) (x := 9999) hp (by decide) (no (by decide)) (no (by decide)) (no (by decide)) (fun _ => ⟨9999, by decide, rfl⟩) (no (by decide))
      have T4 := T3.setP (w0 := 4) (x := σ 14 0 0 5) hp (by decide) (no (by decide)) (no (by decide)) (no (by decide)) (no (by decide)) (no (by decide))
      have T5 := T4.cnt (f := 4) (by decide)
      refine ⟨_, _, T5, ?_, ?_, ?_, Or.inr ?_, fun Q hQ => ?_, fun Q hQ => ?_⟩
      · refine pn_f.u (pn_f.u (pn_f.u (pn_f.u (pn_f.u pn_f.rf ?_) ?_) ?_) ?_) ?_ <;> exact ⟨by omega, rfl⟩
      · refine pn_g.u (pn_g.u (pn_g.u (pn_g.u (pn_g.u pn_g.rf ?_) ?_) ?_) ?_) ?_ <;> rfl
      · have k4 : pn_h e p σ _ := (((pn_h.rf (σ := σ) (e := e) (p := p)).u (j := 3) (x := -2) (by decide)).u (j := 2) (x := 9999) (by decide)).u (j := 4) (x := 9999) (by decide) |>.u (j := 5) (x := σ 14 0 0 5) (by decide)
        refine ⟨fun q p' hq => ?_, fun p' j hj => ?_, ?_⟩
        · rw [sx_u_row _ _ _ _ _ _ (by omega)]; exact k4.1 q p' hq
        · rw [sx_u_row _ _ _ _ _ _ (by omega)]; exact k4.2.1 p' j hj
        · rw [sx_u_at, if_neg (by omega)]; exact k4.2.2
      · simp [sx_u_at]
      · unfold wp_En_settle
        rw [cp, if_neg q2]
        refine ⟨ip, C_offer hT.2.1 rfl rfl hp hq ?_⟩
        unfold wp_En_settle_b31 wp_En_settle_b131
        rw [eo, if_neg q2]
        refine ⟨i4, ?_⟩
        show if nI x ≤ σ 27 e p 4 + σ 14 0 0 4 then _ else _
        rw [if_neg c1]
        intro _ q; subst q
        intro _ q; subst q
        intro _ q; subst q
        refine ⟨i5, fun _ q => ?_⟩
        have e14 : sx_u (sx_u (sx_u σ 27 e p 3 (-2)) 27 e p 2 9999) 27 e p 4 9999 14 0 0 (5 : Int32).toNatClampNeg = σ 14 0 0 5 := by
          rw [sx_u_row _ _ _ _ _ _ (by omega), sx_u_row _ _ _ _ _ _ (by omega), sx_u_row _ _ _ _ _ _ (by omega)]; rfl
        rw [e14] at q
        subst q
        intro _ q; subst q
        exact hQ
      · rw [if_neg q2]
        unfold wp_Mo_chooses_b78
        rw [if_neg (nI_pos (by omega))]
        refine R_of (i := 3) rfl rfl (by omega) (by decide) ?_
        refine R_setting hT.2.1 (i := 4) rfl (by decide) ?_
        rw [elr, if_neg c1]
        refine R_keeps (i := 3) rfl rfl (by omega) (by decide) ?_
        have P3 : pn_P P L v σ (sx_u ρ 68 0 0 (26 + 10 * p + 3) 9999) := hT.2.1.mv (e := e) pn_f.rf (pn_g.rf.u rfl)
        refine R_setting P3 (i := 5) rfl (by decide) ?_
        refine R_keeps (i := 4) rfl rfl (by omega) (by decide) ?_
        refine ⟨in_I (n := 4) rfl (by decide) (by decide), in_I (n := 4) rfl (by decide) (by decide), fun _ z => ?_⟩
        have z2 := z
        subst z
        unfold wp_Mo_chooses_b140 wp_Mo_chooses_b164 wp_Mo_chooses_b176
        rw [if_pos (by decide), if_neg (by decide)]
        refine R_keeps (i := 1) rfl rfl (by omega) (by decide) ?_
        refine R_keeps (i := 2) rfl rfl (by omega) (by decide) ?_
        have em : ∀ (i4 : Nat), i4 = (4 : Int32).toNatClampNeg → sx_u (sx_u (sx_u (sx_u (sx_u ρ 68 0 0 (26 + 10 * p + 3) 9999) 68 0 0 (26 + 10 * p + 4) (σ 14 0 0 5)) 68 0 0 i4 (sx_u (sx_u ρ 68 0 0 (26 + 10 * p + 3) 9999) 68 0 0 (26 + 10 * p + 4) (σ 14 0 0 5) 68 0 0 i4 + 1)) 68 0 0 (26 + 10 * p + 1) 9999) 68 0 0 (26 + 10 * p + 2) (-2) = sx_u (sx_u (sx_u (sx_u (sx_u ρ 68 0 0 (26 + 10 * p + 2) (-2)) 68 0 0 (26 + 10 * p + 1) 9999) 68 0 0 (26 + 10 * p + 3) 9999) 68 0 0 (26 + 10 * p + 4) (σ 14 0 0 5)) 68 0 0 4 (sx_u (sx_u (sx_u (sx_u ρ 68 0 0 (26 + 10 * p + 2) (-2)) 68 0 0 (26 + 10 * p + 1) 9999) 68 0 0 (26 + 10 * p + 3) 9999) 68 0 0 (26 + 10 * p + 4) (σ 14 0 0 5) 68 0 0 4 + 1) := by
          intro i4 hi
          have hi : i4 = 4 := hi
          subst hi
          have a1 : sx_u (sx_u ρ 68 0 0 (26 + 10 * p + 3) 9999) 68 0 0 (26 + 10 * p + 4) (σ 14 0 0 5) 68 0 0 4 = ρ 68 0 0 4 := by
            rw [sx_u_at, if_neg (by omega), sx_u_at, if_neg (by omega)]
          have a2 : sx_u (sx_u (sx_u (sx_u ρ 68 0 0 (26 + 10 * p + 2) (-2)) 68 0 0 (26 + 10 * p + 1) 9999) 68 0 0 (26 + 10 * p + 3) 9999) 68 0 0 (26 + 10 * p + 4) (σ 14 0 0 5) 68 0 0 4 = ρ 68 0 0 4 := by
            rw [sx_u_at, if_neg (by omega), sx_u_at, if_neg (by omega), sx_u_at, if_neg (by omega), sx_u_at, if_neg (by omega)]
          rw [a1, a2]
          funext a b c d
          simp only [sx_u_at]
          by_cases h1 : a = 68 ∧ b = 0 ∧ c = 0
          · obtain ⟨rfl, rfl, rfl⟩ := h1
            simp only [true_and]
            by_cases d1 : d = 26 + 10 * p + 1
            · subst d1
              rw [if_neg (by omega), if_pos rfl, if_neg (by omega), if_neg (by omega), if_neg (by omega), if_pos rfl]
            · by_cases d2 : d = 26 + 10 * p + 2
              · subst d2
                rw [if_pos rfl, if_neg (by omega), if_neg (by omega), if_neg (by omega), if_neg (by omega), if_pos rfl]
              · rw [if_neg d2, if_neg d1]
                by_cases d4 : d = 4
                · subst d4
                  rw [if_pos rfl, if_pos rfl]
                · rw [if_neg d4, if_neg d4, if_neg d1, if_neg d2]
          · have nn : ∀ i : Nat, ¬ (a = 68 ∧ b = 0 ∧ c = 0 ∧ d = i) := fun i z => h1 ⟨z.1, z.2.1, z.2.2.1⟩
            simp only [if_neg (nn _)]
        rw [em _ rfl]
        have r2 : sx_u (sx_u (sx_u (sx_u (sx_u σ 27 e p (2 + 1) (-2)) 27 e p (1 + 1) 9999) 27 e p (3 + 1) 9999) 27 e p (4 + 1) (σ 14 0 0 5)) 16 e 0 (4 + 1) (sx_u (sx_u (sx_u (sx_u σ 27 e p (2 + 1) (-2)) 27 e p (1 + 1) 9999) 27 e p (3 + 1) 9999) 27 e p (4 + 1) (σ 14 0 0 5) 16 e 0 (4 + 1) + 1) 27 e p 2 = 9999 := by simp [sx_u_at]
        have r3 : sx_u (sx_u (sx_u (sx_u (sx_u σ 27 e p (2 + 1) (-2)) 27 e p (1 + 1) 9999) 27 e p (3 + 1) 9999) 27 e p (4 + 1) (σ 14 0 0 5)) 16 e 0 (4 + 1) (sx_u (sx_u (sx_u (sx_u σ 27 e p (2 + 1) (-2)) 27 e p (1 + 1) 9999) 27 e p (3 + 1) 9999) 27 e p (4 + 1) (σ 14 0 0 5) 16 e 0 (4 + 1) + 1) 27 e p 3 = -2 := by simp [sx_u_at]
        rw [r2, r3] at hQ
        exact hQ
end SETTLE
