section TIMER
variable {P L v m e : Nat} {σ ρ : sx_M} {θ : sx_L}
/-- a set of a post's field on both sides, as a step of a tick -/
theorem pn_T.setP (hT : pn_T P L v m e σ ρ) {p0 w0 : Nat} (hp0 : p0 < P) (hw0 : w0 < 10) {x : Int32} (hx0 : w0 = 0 → pn_r 99 x) (hx1 : w0 = 1 → pn_r 20000 x) (hx2 : w0 = 2 → pn_o P x ∧ 0 < p0) (hx3 : w0 = 3 → pn_r 9999 x) (hx6 : w0 = 6 → ∃ q, 2 ≤ q ∧ q ≤ 300 ∧ x = nI q) : pn_T P L v m e (sx_u σ 27 e p0 (w0 + 1) x) (sx_u ρ 68 0 0 (26 + 10 * p0 + w0) x) := by
  obtain ⟨he, hP, hN, hs⟩ := hT
  have f1 : pn_f e σ (sx_u σ 27 e p0 (w0 + 1) x) := pn_f.rf.u ⟨by omega, rfl⟩
  have g1 : pn_g ρ (sx_u ρ 68 0 0 (26 + 10 * p0 + w0) x) := pn_g.rf.u rfl
  have h := hN.setP hp0 hw0 hx0 hx1 hx2 hx3 hx6
  rw [Nat.zero_add] at h
  exact ⟨he, hP.mv f1 g1, h, by rw [f1.1 31 e 0 (by omega), g1 50 0 0 (by omega)]; exact hs⟩
theorem pn_T.tick (hT : pn_T P L v m e σ ρ) : ρ 68 0 0 (0 : Int32).toNatClampNeg = σ 16 e 0 1 := by
  have := hT.2.2.1.2.1 0 (by decide)
  exact this
theorem pn_T.fld (hT : pn_T P L v m e σ ρ) {p w : Nat} (hp : p < P) (hw : w < 10) : ρ 68 0 0 (26 + 10 * p + w) = σ 27 e p (w + 1) := by
  have := hT.2.2.1.2.2.2.2.2.2.1 p hp w hw
  rwa [Nat.zero_add] at this
theorem pn_T.p7 (hT : pn_T P L v m e σ ρ) : P ≤ 7 := hT.2.1.1.1
/-- what a timer's methods leave alone -/
def pn_k (e p : Nat) (σ σ2 : sx_M) : Prop := (∀ q p', (q = 18 ∨ q = 19 ∨ 28 ≤ q) → σ2 q e p' = σ q e p') ∧ (∀ p' j, (¬ p' = p ∨ j < 7) → σ2 27 e p' j = σ 27 e p' j) ∧ (∀ j, σ2 16 e 0 j = σ 16 e 0 j)
theorem pn_k.rf {e p : Nat} {σ : sx_M} : pn_k e p σ σ := ⟨fun _ _ _ => rfl, fun _ _ _ => rfl, fun _ => rfl⟩
theorem pn_k.u {e p : Nat} {σ σ2 : sx_M} (h : pn_k e p σ σ2) {j : Nat} (hj : 7 ≤ j) {x : Int32} : pn_k e p σ (sx_u σ2 27 e p j x) := by
  refine ⟨fun q p' hq => ?_, fun p' i hi => ?_, fun i => ?_⟩
  · rw [sx_u_row _ _ _ _ _ _ (by omega)]; exact h.1 q p' hq
  · rw [sx_u_at, if_neg (by omega)]; exact h.2.1 p' i hi
  · rw [sx_u_row _ _ _ _ _ _ (by omega)]; exact h.2.2 i
theorem S_setTimer (hT : pn_T P L v m e σ ρ) {p : Nat} (hp : p < P) {x : Int32} {q : Nat} (h2 : 2 ≤ q) (h3 : q ≤ 300) (hx : x = nI q) :
    ∃ σ2 ρ2, pn_T P L v m e σ2 ρ2 ∧ pn_f e σ σ2 ∧ pn_g ρ ρ2 ∧ pn_k e p σ σ2 ∧ (∀ Q : sx_M → Prop, Q σ2 → wp_En_setTimer e (nI p) x σ Q) ∧ (∀ Q : sx_M → sx_L → Prop, Q ρ2 θ → wp_Mo_starts (nI p) x ρ θ Q) := by
  have h7 := hT.p7
  have hhalf : x / 2 = nI (q / 2) := by rw [hx]; exact pk_div (by omega) (by decide) (by decide)
  have hpos : 0 < x / 2 := by rw [hhalf]; exact nI_lt (a := 0) (by omega) (by omega)
  have hne : ¬ x / 2 = 0 := by rw [hhalf]; exact nI_ne0 (by omega) (by omega)
  have no : ∀ {A : Prop} {i j : Nat}, i ≠ j → i = j → A := fun h1 h2 => absurd h2 h1
  have T1 := hT.setP (w0 := 6) (x := x) hp (by decide) (no (by decide)) (no (by decide)) (no (by decide)) (no (by decide)) (fun _ => ⟨q, h2, h3, hx⟩)
  have T2 := T1.setP (w0 := 7) (x := 0) hp (by decide) (no (by decide)) (no (by decide)) (no (by decide)) (no (by decide)) (no (by decide))
  have T3 := T2.setP (w0 := 8) (x := 0) hp (by decide) (no (by decide)) (no (by decide)) (no (by decide)) (no (by decide)) (no (by decide))
  generalize e3 : sx_u (sx_u (sx_u σ 27 e p (6 + 1) x) 27 e p (7 + 1) 0) 27 e p (8 + 1) 0 = σ3 at T3
  generalize r3 : sx_u (sx_u (sx_u ρ 68 0 0 (26 + 10 * p + 6) x) 68 0 0 (26 + 10 * p + 7) 0) 68 0 0 (26 + 10 * p + 8) 0 = ρ3 at T3
  have k3 : pn_k e p σ σ3 := by rw [← e3]; exact ((pn_k.rf.u (by decide)).u (by decide)).u (by decide)
  have f3 : pn_f e σ σ3 := by
    rw [← e3]
    refine pn_f.u (pn_f.u (pn_f.u pn_f.rf ?_) ?_) ?_ <;> exact ⟨by omega, rfl⟩
  have g3 : pn_g ρ ρ3 := by
    rw [← r3]
    refine pn_g.u (pn_g.u (pn_g.u pn_g.rf ?_) ?_) ?_ <;> rfl
  have T4 := T3.setP (w0 := 9) (x := x / 2 + pn_lot ((σ3 14 0 0 8) + (σ3 31 e 0 3)) ((8 * σ3 16 e 0 1) + nI p) (x / 2)) hp (by decide) (no (by decide)) (no (by decide)) (no (by decide)) (no (by decide)) (no (by decide))
  refine ⟨_, _, T4, f3.u ⟨by decide, rfl⟩, g3.u rfl, k3.u (by decide), fun Q hQ => ?_, fun Q hQ => ?_⟩
  · unfold wp_En_setTimer
    rw [nI_clamp (n := p) (by omega)]
    refine ⟨vp_in_nI (by omega) (by decide), fun _ q => ?_⟩; subst q
    intro _ q; subst q
    intro _ q; rw [e3] at q; subst q
    refine C_lot hpos ?_
    intro _ q; subst q
    exact hQ
  · unfold wp_Mo_starts
    refine R_keeps (i := 6) rfl rfl (by omega) (by decide) ?_
    refine R_keeps (i := 7) rfl rfl (by omega) (by decide) ?_
    refine R_keeps (i := 8) rfl rfl (by omega) (by decide) ?_
    rw [r3]
    refine ⟨in_I (n := 0) rfl (by decide) (by decide), ?_⟩
    refine R_lotOf T3.2.1 hne ?_
    refine R_keeps (i := 9) rfl rfl (by omega) (by decide) ?_
    rw [T3.tick, ← T3.2.2.2]
    exact hQ
theorem S_beginAnew (hT : pn_T P L v m e σ ρ) {p : Nat} (hp : p < P) :
    ∃ σ2 ρ2, pn_T P L v m e σ2 ρ2 ∧ pn_f e σ σ2 ∧ pn_g ρ ρ2 ∧ pn_k e p σ σ2 ∧ (∀ Q : sx_M → Prop, Q σ2 → wp_En_beginAnew e (nI p) σ Q) ∧ (∀ Q : sx_M → sx_L → Prop, Q ρ2 θ → wp_Mo_beginsAnew (nI p) ρ θ Q) := by
  have h7 := hT.p7
  obtain ⟨hh, q1, q2, q3⟩ := hT.2.1.2.2.2.2.1.1
  have i0 : vp_in 0 9 := in_I (n := 0) rfl (by decide) (by decide)
  have ip : vp_in (nI p) 7 := vp_in_nI (by omega) (by decide)
  have c0 : (0 : Int32).toNatClampNeg = 0 := rfl
  have e6 := hT.fld hp (w := 6) (by decide)
  by_cases c : σ 27 e p 7 = σ 14 0 0 0
  · refine ⟨σ, ρ, hT, pn_f.rf, pn_g.rf, pn_k.rf, fun Q hQ => ?_, fun Q hQ => ?_⟩
    · unfold wp_En_beginAnew wp_En_beginAnew_b32
      rw [nI_clamp (n := p) (by omega), c0, if_pos c]
      exact ⟨i0, ip, hQ⟩
    · unfold wp_Mo_beginsAnew wp_Mo_beginsAnew_b25
      refine R_of (i := 6) rfl rfl (by omega) (by decide) ?_
      refine R_setting hT.2.1 (i := 0) rfl (by decide) ?_
      rw [e6, if_pos c]
      exact hQ
  · obtain ⟨σ2, ρ2, T2, f2, g2, k2, wC, wR⟩ := S_setTimer (θ := θ) hT hp (x := σ 14 0 0 0) (q := 2 * hh) (by omega) (by omega) q3
    refine ⟨σ2, ρ2, T2, f2, g2, k2, fun Q hQ => ?_, fun Q hQ => ?_⟩
    · unfold wp_En_beginAnew wp_En_beginAnew_b32
      rw [nI_clamp (n := p) (by omega), c0, if_neg c]
      exact ⟨i0, ip, wC _ hQ⟩
    · unfold wp_Mo_beginsAnew wp_Mo_beginsAnew_b25
      refine R_of (i := 6) rfl rfl (by omega) (by decide) ?_
      refine R_setting hT.2.1 (i := 0) rfl (by decide) ?_
      rw [e6, if_neg c]
      refine R_setting hT.2.1 (i := 0) rfl (by decide) ?_
      exact wR _ hQ
/-- what the methods that only put leave alone -/
def pn_l (e : Nat) (σ σ2 : sx_M) : Prop := (∀ q p, (q = 18 ∨ q = 19 ∨ 27 ≤ q) → σ2 q e p = σ q e p) ∧ σ2 16 e 0 1 = σ 16 e 0 1
theorem pn_l.tr {e : Nat} {a b c : sx_M} (h : pn_l e a b) (h2 : pn_l e b c) : pn_l e a c := ⟨fun q p hq => (h2.1 q p hq).trans (h.1 q p hq), h2.2.trans h.2⟩
/-- a word put to a post -/
theorem S_word (hT : pn_T P L v m e σ ρ) {s p t d : Nat} (hs : 1 ≤ s ∧ s ≤ 2) (hp : p < P) (ht : t < P) (hd : d < P) {j : Nat} (hj : j ≤ 11) {so fr to ab ov li : Int32} (x : Int32) (h1 : so = nI s) (h2 : fr = nI p) (h3 : to = nI t) (h4 : ab = nI d) (h5 : li = nI j) (h6 : ov = nI (j + 1)) :
    ∃ m2 σ2 ρ2, pn_T P L v m2 e σ2 ρ2 ∧ pn_f e σ σ2 ∧ pn_g ρ ρ2 ∧ pn_l e σ σ2 ∧ (∀ Q : sx_M → Prop, Q σ2 → wp_En_put e so fr to ab x li σ Q) ∧ (∀ Q : sx_M → sx_L → Prop, Q ρ2 θ → wp_Mo_puts so fr to ab ov 0 x ρ θ Q) := by
  have h7 := hT.p7
  obtain ⟨m2, σ2, ρ2, a, b, c, d1, d2, f, g⟩ := S_put (θ := θ) hT (so := so) (fr := fr) (to := to) (ab := ab) (va := x) (li := li) (fr2 := fr) (to2 := to) (ab2 := ab) (ov := ov) (ve := 0) ⟨rfl, p, hp, h2, Or.inr ⟨s, t, d, j, hs.1, hs.2, ht, hd, hj, h1, h3, h4, h5, by rw [h1, h2, h3, h4, h6]; exact pn_w1 s (by omega) p (by omega) t (by omega) d (by omega) j (by omega)⟩⟩
  exact ⟨m2, σ2, ρ2, a, b, c, ⟨d1, d2⟩, f, g⟩
theorem S_report (hT : pn_T P L v m e σ ρ) {p q : Nat} (hp : p < P) (hq : q < P) (hpar : σ 27 e p 3 = nI q) :
    ∃ m2 σ2 ρ2, pn_T P L v m2 e σ2 ρ2 ∧ pn_f e σ σ2 ∧ pn_g ρ ρ2 ∧ ((∀ q p', (q = 18 ∨ q = 19 ∨ 28 ≤ q) → σ2 q e p' = σ q e p') ∧ (∀ p' j, ¬ j = 6 → σ2 27 e p' j = σ 27 e p' j) ∧ σ2 16 e 0 1 = σ 16 e 0 1) ∧ (∀ Q : sx_M → Prop, Q σ2 → wp_En_report e (nI p) σ Q) ∧ (∀ Q : sx_M → sx_L → Prop, Q ρ2 θ → wp_Mo_reports (nI p) ρ θ Q) := by
  have h7 := hT.p7
  have no : ∀ {A : Prop} {i j : Nat}, i ≠ j → i = j → A := fun h1 h2 => absurd h2 h1
  have T1 := hT.setP (w0 := 5) (x := σ 27 e p 6 + 1) hp (by decide) (no (by decide)) (no (by decide)) (no (by decide)) (no (by decide)) (no (by decide))
  have e3 : sx_u σ 27 e p (5 + 1) (σ 27 e p 6 + 1) 27 e p 3 = nI q := by rw [sx_u_at, if_neg (by omega)]; exact hpar
  obtain ⟨m2, σ2, ρ2, T2, f2, g2, l2, wC, wR⟩ := S_word (θ := θ) T1 (s := 1) ⟨by decide, by decide⟩ hp hq hp (j := 0) (by decide) (so := 1) (fr := nI p) (to := sx_u σ 27 e p (5 + 1) (σ 27 e p 6 + 1) 27 e p 3) (ab := nI p) (ov := 1) (li := 0) (sx_u σ 27 e p (5 + 1) (σ 27 e p 6 + 1) 27 e p 6) rfl rfl e3 rfl rfl rfl
  refine ⟨m2, σ2, ρ2, T2, (pn_f.rf.u ⟨by omega, rfl⟩).tr f2, (pn_g.rf.u rfl).tr g2, ⟨fun q p' hq => ?_, fun p' j hj => ?_, ?_⟩, fun Q hQ => ?_, fun Q hQ => ?_⟩
  · rw [l2.1 q p' (by omega), sx_u_row _ _ _ _ _ _ (by omega)]
  · rw [l2.1 27 p' (by omega), sx_u_at, if_neg (by omega)]
  · rw [l2.2, sx_u_row _ _ _ _ _ _ (by omega)]
  · unfold wp_En_report
    rw [nI_clamp (n := p) (by omega)]
    refine ⟨vp_in_nI (by omega) (by decide), fun _ z => ?_⟩; subst z
    exact wC _ hQ
  · unfold wp_Mo_reports
    refine R_of (i := 5) rfl rfl (by omega) (by decide) ?_
    rw [hT.fld hp (w := 5) (by decide)]
    refine R_keeps (i := 5) rfl rfl (by omega) (by decide) ?_
    refine R_of (i := 2) rfl rfl (by omega) (by decide) ?_
    rw [T1.fld hp (w := 2) (by decide)]
    refine R_of (i := 5) rfl rfl (by omega) (by decide) ?_
    rw [T1.fld hp (w := 5) (by decide)]
    exact wR _ hQ
end TIMER
