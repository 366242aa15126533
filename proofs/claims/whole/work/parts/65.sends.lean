/-- the timers begin anew, one behind the other -/
def jo_B : List Nat → sx_M → sx_M → Prop
  | [], σ, σ2 => σ2 = σ
  | q :: l, σ, σ2 => ∃ σ1, jo_B l σ1 σ2 ∧ pn_f 0 σ σ1 ∧ ∀ Q : sx_M → Prop, Q σ1 → wp_En_beginAnew 0 (nI q) σ Q
/-- what the reference's way touches -/
def jo_G (ρ ρ2 : sx_M) : Prop := (∀ k n p, ¬ (k = 50 ∨ k = 68 ∨ k = 70) → ρ2 k n p = ρ k n p) ∧ ∀ j, ¬ (j = 33 ∨ j = 34) → ρ2 50 0 0 j = ρ 50 0 0 j
def jo_S (i a : Nat) (r : Int32 × List Nat × List Nat × Nat) (ρ ρ2 : sx_M) : Prop := jo_G ρ ρ2 ∧ ρ2 50 0 0 33 = nI (i + r.2.1.length) ∧ ρ2 50 0 0 34 = nI (a + r.2.2.1.length) ∧ (∀ j, j < i → ρ2 70 0 0 j = ρ 70 0 0 j) ∧ ∀ j, j < r.2.1.length → ρ2 70 0 0 (i + j) = nI (r.2.1.getD j 0)
section SENDS
variable {P L v m n : Nat} {σ σ2 ρ ρ2 : sx_M} {θ : sx_L}
theorem jo_G.rf : jo_G ρ ρ := ⟨fun _ _ _ _ => rfl, fun _ _ => rfl⟩
theorem jo_G.tr {a b c : sx_M} (h : jo_G a b) (h2 : jo_G b c) : jo_G a c := ⟨fun k n p q => (h2.1 k n p q).trans (h.1 k n p q), fun j q => (h2.2 j q).trans (h.2 j q)⟩
theorem pn_g.jG (h : pn_g ρ ρ2) : jo_G ρ ρ2 := ⟨fun k n p q => h k n p (by omega), fun j _ => by rw [h 50 0 0 (by decide)]⟩
theorem pn_k.jq {p : Nat} (h : pn_k 0 p σ σ2) (hf : pn_f 0 σ σ2) : jo_q σ σ2 := ⟨fun p => h.1 29 p (by omega), fun p j hj => h.2.1 p j (Or.inr hj), h.1 18 0 (by omega), fun p => hf.1 13 0 p (by omega)⟩
/-- the row as it was, counters aside -/
theorem pn_T.sr {e : Nat} (hT : pn_T P L v m e σ ρ) (h : ∀ k n p, ¬ (k = 50 ∨ k = 70) → ρ2 k n p = ρ k n p) (h5 : ∀ j, ¬ (j = 33 ∨ j = 34) → ρ2 50 0 0 j = ρ 50 0 0 j) : pn_T P L v m e σ ρ2 :=
  ⟨hT.1, hT.2.1.mvA (fun _ _ _ _ _ => rfl) (h5 17 (by decide)) (fun k h1 h2 => h k 0 0 (by omega)), hT.2.2.1.mv (fun _ _ _ _ => rfl) (h 68 0 0 (by decide)), by rw [h5 31 (by decide)]; exact hT.2.2.2⟩
theorem jo_S.e {i a c : Nat} {e : Int32} (hG : jo_G ρ ρ2) (h3 : ρ2 50 0 0 33 = nI i) (h4 : ρ2 50 0 0 34 = nI a) (h70 : ∀ j, j < i → ρ2 70 0 0 j = ρ 70 0 0 j) : jo_S i a (e, [], [], c) ρ ρ2 := ⟨hG, h3, h4, h70, fun j hj => absurd hj (Nat.not_lt_zero j)⟩
theorem jo_S.c1 {i a y : Nat} {r : Int32 × List Nat × List Nat × Nat} {ρ1 : sx_M} (hG : jo_G ρ ρ1) (hy : ρ1 70 0 0 i = nI y) (h70 : ∀ j, j < i → ρ1 70 0 0 j = ρ 70 0 0 j) (h : jo_S (i + 1) a r ρ1 ρ2) : jo_S i a (jo_1 y r) ρ ρ2 := by
  obtain ⟨a1, a2, a3, a4, a5⟩ := h
  refine ⟨hG.tr a1, ?_, a3, fun j hj => (a4 j (by omega)).trans (h70 j hj), fun j hj => ?_⟩
  · rw [a2]; show nI (i + 1 + r.2.1.length) = nI (i + (r.2.1.length + 1)); congr 1; omega
  · cases j with
    | zero => rw [Nat.add_zero, a4 i (by omega)]; exact hy
    | succ j =>
      have hj2 : j < r.2.1.length := Nat.lt_of_succ_lt_succ hj
      rw [show i + (j + 1) = i + 1 + j by omega, a5 j hj2]; rfl
theorem jo_S.c2 {i a y : Nat} {r : Int32 × List Nat × List Nat × Nat} {ρ1 : sx_M} (hG : jo_G ρ ρ1) (hy : ρ1 70 0 0 i = nI y) (h70 : ∀ j, j < i → ρ1 70 0 0 j = ρ 70 0 0 j) (h : jo_S (i + 1) (a + 1) r ρ1 ρ2) : jo_S i a (jo_2 y r) ρ ρ2 := by
  obtain ⟨a1, a2, a3, a4, a5⟩ := h
  refine ⟨hG.tr a1, ?_, ?_, fun j hj => (a4 j (by omega)).trans (h70 j hj), fun j hj => ?_⟩
  · rw [a2]; show nI (i + 1 + r.2.1.length) = nI (i + (r.2.1.length + 1)); congr 1; omega
  · rw [a3]; show nI (a + 1 + r.2.2.1.length) = nI (a + (r.2.2.1.length + 1)); congr 1; omega
  · cases j with
    | zero => rw [Nat.add_zero, a4 i (by omega)]; exact hy
    | succ j =>
      have hj2 : j < r.2.1.length := Nat.lt_of_succ_lt_succ hj
      rw [show i + (j + 1) = i + 1 + j by omega, a5 j hj2]; rfl
theorem pn_T.o3 (hT : pn_T P L v m 0 σ ρ) : ∀ p, p < P → pn_o P (σ 27 0 p 3) := hT.2.2.1.par
theorem pn_T.o29 (hT : pn_T P L v m 0 σ ρ) : ∀ p j, p < P → j < P → pn_o P (σ 29 0 p j) := fun p j hp hj => (hT.2.2.1.2.2.2.2.2.2.2.2.2.2.2.1 p j hp hj).2
/-- the hop of the reference -/
def jo_u (ρ : sx_M) (i y : Nat) : sx_M := sx_u (sx_u ρ 70 0 0 i (nI y)) 50 0 0 33 (nI (i + 1))
theorem R_hop (hT : pn_T P L v m 0 σ ρ) {d x i : Nat} (hx : x < P) (hy : jo_y σ d x < P) (hi : i ≤ 20) (h3 : ρ 50 0 0 33 = nI i) {K : Int32 → Int32 → Int32 → sx_M → sx_L → Prop} {Q : Int32 → sx_M → sx_L → Prop}
    (k3 : pn_nb σ 0 x (jo_y σ d x) = 0 → Q 3 ρ θ) (k6 : ¬ pn_nb σ 0 x (jo_y σ d x) = 0 → i = 20 → Q 6 ρ θ)
    (k0 : ¬ pn_nb σ 0 x (jo_y σ d x) = 0 → i < 20 → jo_a σ d x = 0 → wp_Mo_sends_b222 K Q (nI d) (nI x) (nI (jo_y σ d x)) (jo_d σ d x) (jo_u ρ i (jo_y σ d x)) θ)
    (k1 : ¬ pn_nb σ 0 x (jo_y σ d x) = 0 → i < 20 → ¬ jo_a σ d x = 0 → wp_Mo_sends_b196 K Q (nI d) (nI x) (nI (jo_y σ d x)) (jo_d σ d x) (jo_u ρ i (jo_y σ d x)) θ) :
    wp_Mo_sends_b117 K Q (nI d) (nI x) (nI (jo_y σ d x)) (jo_d σ d x) ρ θ := by
  have h7 := hT.p7
  unfold jo_a at k0 k1
  generalize ey : jo_y σ d x = y at *
  unfold wp_Mo_sends_b117
  refine R_near hT.2.1 hT.2.2.1 rfl rfl hx hy ?_
  by_cases c : pn_nb σ 0 x y = 0
  · rw [if_pos c]; exact k3 c
  · rw [if_neg c, h3]
    by_cases ci : i = 20
    · rw [if_pos (show nI i = 20 by rw [ci]; rfl)]; exact k6 c ci
    · have hi2 : i < 20 := by omega
      rw [if_neg (show ¬ nI i = 20 from fun z => ci ((nI_eq (b := 20) (by omega) (by decide)).mp z)), nI_clamp (n := i) (by omega)]
      refine ⟨vp_in_nI hi2 (by decide), ?_⟩
      intro _ q; subst q
      intro s q
      have q2 : s = jo_u ρ i y := by
        rw [q]; unfold jo_u
        rw [sx_u_row _ _ _ _ _ _ (show ¬ (50 = 70 ∧ 0 = 0 ∧ 0 = 0) by decide), h3, nI_1]
      clear q; subst q2
      have r68 : jo_u ρ i y 68 0 0 = ρ 68 0 0 := by
        unfold jo_u; rw [sx_u_row _ _ _ _ _ _ (by decide), sx_u_row _ _ _ _ _ _ (by decide)]
      have v1 : ∀ p, p < P → ρ 68 0 0 (26 + 10 * p + 1) = σ 27 0 p 2 := fun p hp => hT.fld hp (w := 1) (by decide)
      refine R_of (p := y) (i := 1) rfl rfl (by omega) (by decide) ?_
      refine R_of (p := x) (i := 1) rfl rfl (by omega) (by decide) ?_
      rw [r68, v1 y hy, v1 x hx]
      have kk0 := k0 c hi2
      have kk1 := k1 c hi2
      by_cases cd : jo_d σ d x = 0
      · rw [if_pos cd] at kk0 kk1; rw [if_pos cd]
        by_cases cr : σ 27 0 y 2 - σ 27 0 x 2 < 0
        · rw [if_pos cr] at kk0; rw [if_pos cr]; exact kk0 rfl
        · rw [if_neg cr] at kk1; rw [if_neg cr]; exact kk1 (by decide)
      · rw [if_neg cd] at kk0 kk1; rw [if_neg cd]
        by_cases cr : 0 < σ 27 0 y 2 - σ 27 0 x 2
        · rw [if_pos cr] at kk0; rw [if_pos cr]; exact kk0 rfl
        · rw [if_neg cr] at kk1; rw [if_neg cr]; exact kk1 (by decide)
/-- from a post on: to its end, or to the hop -/
theorem R_at (hT : pn_T P L v m 0 σ ρ) {d x c : Nat} (hd : d < P) (hx : x < P) (hc : c < P) {dn : Int32} {Q : Int32 → sx_M → sx_L → Prop} {f : Nat}
    (k5 : jo_e σ d x dn = 5 → Q 5 (sx_u (sx_u ρ 68 0 0 (145 + 7 * c + d) (-2)) 68 0 0 (194 + 7 * c + d) 0) θ)
    (k2 : ¬ jo_e σ d x dn = 5 → ¬ jo_e σ d x dn = 0 → Q (jo_e σ d x dn) ρ θ)
    (k0 : jo_e σ d x dn = 0 → wp_Mo_sends_b117 (wp_Mo_sends_b15 Q f) Q (nI d) (nI x) (nI (jo_y σ d x)) (jo_d σ d x) ρ θ) :
    wp_Mo_sends_b15 Q (f + 1) (nI d) (nI x) (if dn = 0 then -1 else nI c) ρ θ := by
  have h7 := hT.p7
  have o29 := hT.o29 x d hx hd
  have o3 := hT.o3 x hx
  have e1 : ((145 : Int32) + (7 * nI x)) + nI d = nI (145 + 7 * x + d) := ix_2 145 7 x d
  have v1 : ρ 68 0 0 (145 + 7 * x + d) = σ 29 0 x d := (hT.rt hx hd).2.1
  rw [wp_Mo_sends_b15, e1, nI_clamp (n := 145 + 7 * x + d) (by omega), v1]
  refine ⟨vp_in_nI (by omega) (by decide), ?_⟩
  by_cases c0 : σ 29 0 x d = -2
  · rw [if_pos (show σ 29 0 x d < 0 by rw [c0]; decide)]
    unfold wp_Mo_sends_b42
    by_cases c1 : dn = 0
    · rw [if_pos c1, if_pos (by decide)]
      unfold wp_Mo_sends_b91
      rw [if_pos rfl]
      have ee : jo_e σ d x dn = (if x = 0 then 2 else if σ 27 0 x 3 = -2 then 1 else 0) := by unfold jo_e; rw [if_pos c0, if_pos c1]
      rw [ee] at k2 k0
      by_cases c2 : x = 0
      · rw [if_pos c2] at k2
        rw [if_pos (show nI x = 0 by rw [c2]; rfl)]
        exact k2 (by decide) (by decide)
      · rw [if_neg c2] at k2 k0
        rw [if_neg (nI_ne0 (by omega) (by omega))]
        refine R_of (p := x) (i := 2) rfl rfl (by omega) (by decide) ?_
        rw [hT.fld hx (w := 2) (by decide)]
        by_cases c3 : σ 27 0 x 3 = -2
        · rw [if_pos c3] at k2
          rw [if_neg (show ¬ 0 ≤ σ 27 0 x (2 + 1) by show ¬ 0 ≤ σ 27 0 x 3; rw [c3]; decide)]
          exact k2 (by decide) (by decide)
        · rw [if_neg c3] at k0
          have k00 := k0 rfl
          obtain ⟨q, hq, eq⟩ := o3.resolve_left c3
          rw [if_pos (show 0 ≤ σ 27 0 x (2 + 1) by show 0 ≤ σ 27 0 x 3; rw [eq]; exact nI_pos' (by omega))]
          have ey : jo_y σ d x = q := by unfold jo_y jo_v; rw [if_pos c0]; exact cl_I eq (by omega)
          have ed : jo_d σ d x = 0 := by unfold jo_d; rw [if_pos c0]
          rw [ey, ed, ← eq] at k00
          exact k00
    · have ee : jo_e σ d x dn = 5 := by unfold jo_e; rw [if_pos c0, if_neg c1]
      have e2 : ((145 : Int32) + (7 * nI c)) + nI d = nI (145 + 7 * c + d) := ix_2 145 7 c d
      have e3 : ((194 : Int32) + (7 * nI c)) + nI d = nI (194 + 7 * c + d) := ix_2 194 7 c d
      rw [if_neg c1, if_neg (nI_pos (by omega)), if_pos rfl, e2, e3, nI_clamp (n := 145 + 7 * c + d) (by omega), nI_clamp (n := 194 + 7 * c + d) (by omega)]
      refine ⟨vp_in_nI (by omega) (by decide), ?_⟩
      intro _ q; subst q
      refine ⟨vp_in_nI (by omega) (by decide), ?_⟩
      intro _ q; subst q
      exact k5 ee
  · have nn : ¬ σ 29 0 x d < 0 := fun z => c0 ((o29.neg h7).mp z)
    rw [if_neg nn]
    have ee : jo_e σ d x dn = 0 := by unfold jo_e; rw [if_neg c0]
    have k00 := k0 ee
    obtain ⟨q, hq, eq⟩ := o29.resolve_left c0
    have ey : jo_y σ d x = q := by unfold jo_y jo_v; rw [if_neg c0]; exact cl_I eq (by omega)
    have ed : jo_d σ d x = 1 := by unfold jo_d; rw [if_neg c0]
    rw [ey, ed, ← eq] at k00
    unfold wp_Mo_sends_b42 wp_Mo_sends_b91
    rw [if_neg (show ¬ (1 : Int32) = 0 by decide), if_neg (show ¬ (1 : Int32) = 0 by decide)]
    by_cases c1 : dn = 0
    · rw [if_pos c1, if_pos (by decide)]; exact k00
    · rw [if_neg c1, if_neg (nI_pos (by omega))]; exact k00
/-- the reference: the way from here on, beside the class's timers -/
theorem S_sendLoop {d : Nat} (hd : d < P) : ∀ (k i x c : Nat) (dn : Int32) (a : Nat) (σ ρ : sx_M), i + k = 20 → x < P → c < P → pn_z dn → a ≤ 1 → pn_T P L v m 0 σ ρ → ρ 50 0 0 33 = nI i → ρ 50 0 0 34 = nI a →
    ∃ σ2 ρ2, jo_B (jo_n σ d k x c dn a).2.2.1 σ σ2 ∧ pn_f 0 σ σ2 ∧ pn_j 0 σ σ2 ∧ pn_T P L v m 0 (if (jo_n σ d k x c dn a).1 = 5 then sx_u σ2 29 0 (jo_n σ d k x c dn a).2.2.2 d (-2) else σ2) ρ2 ∧ jo_S i a (jo_n σ d k x c dn a) ρ ρ2 ∧ ∀ Q : Int32 → sx_M → sx_L → Prop, Q (jo_n σ d k x c dn a).1 ρ2 θ → ∃ f, wp_Mo_sends_b15 Q f (nI d) (nI x) (if dn = 0 then -1 else nI c) ρ θ := by
  intro k
  induction k with
  | zero =>
    intro i x c dn a σ ρ hik hx hc hdn ha hT f3 f4
    have h7 := hT.p7
    by_cases he : jo_e σ d x dn = 0
    · have hy := (jo_y_v h7 hT.o3 hT.o29 hd hx he).1
      by_cases c3 : pn_nb σ 0 x (jo_y σ d x) = 0
      · have en : jo_n σ d 0 x c dn a = (3, [], [], c) := by unfold jo_n; rw [if_pos he, if_pos c3]
        rw [en]
        refine ⟨σ, ρ, rfl, pn_f.rf, pn_j.rf, ?_, jo_S.e jo_G.rf f3 f4 (fun _ _ => rfl), fun Q hQ => ⟨1, ?_⟩⟩
        · rw [if_neg (show ¬ (3 : Int32) = 5 by decide)]; exact hT
        · exact R_at hT hd hx hc (fun z => absurd (he.symm.trans z) (by decide)) (fun _ z => absurd he z) (fun _ => R_hop hT hx hy (by omega) f3 (fun _ => hQ) (fun z => absurd c3 z) (fun z => absurd c3 z) (fun z => absurd c3 z))
      · have en : jo_n σ d 0 x c dn a = (6, [], [], c) := by unfold jo_n; rw [if_pos he, if_neg c3]
        rw [en]
        refine ⟨σ, ρ, rfl, pn_f.rf, pn_j.rf, ?_, jo_S.e jo_G.rf f3 f4 (fun _ _ => rfl), fun Q hQ => ⟨1, ?_⟩⟩
        · rw [if_neg (show ¬ (6 : Int32) = 5 by decide)]; exact hT
        · exact R_at hT hd hx hc (fun z => absurd (he.symm.trans z) (by decide)) (fun _ z => absurd he z) (fun _ => R_hop hT hx hy (by omega) f3 (fun z => absurd z c3) (fun _ _ => hQ) (fun _ z => by omega) (fun _ z => by omega))
    · have en : jo_n σ d 0 x c dn a = (jo_e σ d x dn, [], [], c) := by unfold jo_n; rw [if_neg he]
      rw [en]
      by_cases c5 : jo_e σ d x dn = 5
      · have T2 := hT.setR (σ2 := sx_u σ 29 0 c d (-2)) hc hd (x := -2) (y := 0) (Or.inl rfl) (pn_f.rf.u ⟨by omega, rfl⟩) (fun q p h1 _ => by rw [sx_u_row _ _ _ _ _ _ (by omega)]) (fun p j => by rw [sx_u_at]; by_cases z : p = c ∧ j = d <;> simp [z]) (fun p j _ => by rw [sx_u_row _ _ _ _ _ _ (by omega)]) (fun z => absurd rfl z)
        refine ⟨σ, sx_u (sx_u ρ 68 0 0 (145 + 7 * c + d) (-2)) 68 0 0 (194 + 7 * c + d) 0, rfl, pn_f.rf, pn_j.rf, ?_, jo_S.e ?_ ?_ ?_ (fun j _ => ?_), fun Q hQ => ⟨1, ?_⟩⟩
        · rw [if_pos c5]; exact T2
        · exact ((pn_g.rf.u rfl).u rfl : pn_g ρ _).jG
        · rw [sx_u_row _ _ _ _ _ _ (by decide), sx_u_row _ _ _ _ _ _ (by decide)]; exact f3
        · rw [sx_u_row _ _ _ _ _ _ (by decide), sx_u_row _ _ _ _ _ _ (by decide)]; exact f4
        · rw [sx_u_row _ _ _ _ _ _ (by decide), sx_u_row _ _ _ _ _ _ (by decide)]
        · refine R_at hT hd hx hc (fun _ => ?_) (fun z => absurd c5 z) (fun z => absurd z he)
          rw [c5] at hQ; exact hQ
      · refine ⟨σ, ρ, rfl, pn_f.rf, pn_j.rf, ?_, jo_S.e jo_G.rf f3 f4 (fun _ _ => rfl), fun Q hQ => ⟨1, ?_⟩⟩
        · rw [if_neg c5]; exact hT
        · exact R_at hT hd hx hc (fun z => absurd z c5) (fun _ _ => hQ) (fun z => absurd z he)
  | succ k ih =>
    intro i x c dn a σ ρ hik hx hc hdn ha hT f3 f4
    have h7 := hT.p7
    by_cases he : jo_e σ d x dn = 0
    · have hy := (jo_y_v h7 hT.o3 hT.o29 hd hx he).1
      have start : ∀ (Q : Int32 → sx_M → sx_L → Prop) f, wp_Mo_sends_b117 (wp_Mo_sends_b15 Q f) Q (nI d) (nI x) (nI (jo_y σ d x)) (jo_d σ d x) ρ θ → wp_Mo_sends_b15 Q (f + 1) (nI d) (nI x) (if dn = 0 then -1 else nI c) ρ θ := fun Q f h => R_at hT hd hx hc (fun z => absurd (he.symm.trans z) (by decide)) (fun _ z => absurd he z) (fun _ => h)
      by_cases c3 : pn_nb σ 0 x (jo_y σ d x) = 0
      · have en : jo_n σ d (k + 1) x c dn a = (3, [], [], c) := by unfold jo_n; rw [if_pos he, if_pos c3]
        rw [en]
        refine ⟨σ, ρ, rfl, pn_f.rf, pn_j.rf, ?_, jo_S.e jo_G.rf f3 f4 (fun _ _ => rfl), fun Q hQ => ⟨1, start Q 0 ?_⟩⟩
        · rw [if_neg (show ¬ (3 : Int32) = 5 by decide)]; exact hT
        · exact R_hop hT hx hy (by omega) f3 (fun _ => hQ) (fun z => absurd c3 z) (fun z => absurd c3 z) (fun z => absurd c3 z)
      · obtain ⟨ρ1, e1⟩ : ∃ z, z = jo_u ρ i (jo_y σ d x) := ⟨_, rfl⟩
        have g1 : ∀ k n p, ¬ (k = 50 ∨ k = 70) → ρ1 k n p = ρ k n p := fun k n p h => by rw [e1]; unfold jo_u; rw [sx_u_row _ _ _ _ _ _ (by omega), sx_u_row _ _ _ _ _ _ (by omega)]
        have g5 : ∀ j, ¬ j = 33 → ρ1 50 0 0 j = ρ 50 0 0 j := fun j h => by rw [e1]; unfold jo_u; rw [sx_u_at, if_neg (by omega), sx_u_row _ _ _ _ _ _ (by decide)]
        have g33 : ρ1 50 0 0 33 = nI (i + 1) := by rw [e1]; unfold jo_u; rw [sx_u_at]; simp
        have g70 : ρ1 70 0 0 i = nI (jo_y σ d x) := by rw [e1]; unfold jo_u; rw [sx_u_row _ _ _ _ _ _ (by decide), sx_u_at]; simp
        have g70' : ∀ j, j < i → ρ1 70 0 0 j = ρ 70 0 0 j := fun j hj => by rw [e1]; unfold jo_u; rw [sx_u_row _ _ _ _ _ _ (by decide), sx_u_at, if_neg (by omega)]
        have T1 : pn_T P L v m 0 σ ρ1 := hT.sr g1 (fun j hj => g5 j (by omega))
        have G1 : jo_G ρ ρ1 := ⟨fun k n p h => g1 k n p (by omega), fun j h => g5 j (by omega)⟩
        have neq : ¬ jo_y σ d x = d → ¬ nI (jo_y σ d x) = nI d := fun h z => h ((nI_eq (by omega) (by omega)).mp z)
        have nxt : ∀ (Q : Int32 → sx_M → sx_L → Prop) (K : Int32 → Int32 → Int32 → sx_M → sx_L → Prop) (ρ : sx_M), ¬ jo_y σ d x = d → K (nI d) (nI (jo_y σ d x)) (if jo_d σ d x = 0 then -1 else nI x) ρ θ → wp_Mo_sends_b222 K Q (nI d) (nI x) (nI (jo_y σ d x)) (jo_d σ d x) ρ θ := fun Q K ρ hn h => by
          unfold wp_Mo_sends_b222 wp_Mo_sends_b240
          rw [if_neg (neq hn)]
          by_cases cd : jo_d σ d x = 0
          · rw [if_pos cd] at h ⊢; exact h
          · rw [if_neg cd] at h ⊢; exact h
        by_cases c0 : jo_a σ d x = 0
        · have hop : ∀ (Q : Int32 → sx_M → sx_L → Prop) (K : Int32 → Int32 → Int32 → sx_M → sx_L → Prop), wp_Mo_sends_b222 K Q (nI d) (nI x) (nI (jo_y σ d x)) (jo_d σ d x) ρ1 θ → wp_Mo_sends_b117 K Q (nI d) (nI x) (nI (jo_y σ d x)) (jo_d σ d x) ρ θ := fun Q K h => R_hop hT hx hy (by omega) f3 (fun z => absurd z c3) (fun _ z => by omega) (fun _ _ _ => by rw [← e1]; exact h) (fun _ _ z => absurd c0 z)
          by_cases cd0 : jo_y σ d x = d
          · have en : jo_n σ d (k + 1) x c dn a = jo_1 (jo_y σ d x) (0, [], [], c) := by unfold jo_n; rw [if_pos he, if_neg c3, if_pos c0, if_pos cd0]; rfl
            rw [en]
            refine ⟨σ, ρ1, rfl, pn_f.rf, pn_j.rf, ?_, jo_S.c1 G1 g70 g70' (jo_S.e jo_G.rf g33 (by rw [g5 34 (by decide)]; exact f4) (fun _ _ => rfl)), fun Q hQ => ⟨1, start Q 0 (hop Q _ ?_)⟩⟩
            · rw [if_neg (show ¬ (jo_1 (jo_y σ d x) (0, [], [], c)).1 = 5 by show ¬ (0 : Int32) = 5; decide)]; exact T1
            · unfold wp_Mo_sends_b222; rw [if_pos (by rw [cd0])]; exact hQ
          · have en : jo_n σ d (k + 1) x c dn a = jo_1 (jo_y σ d x) (jo_n σ d k (jo_y σ d x) x (jo_d σ d x) a) := by rw [jo_n, if_pos he, if_neg c3, if_pos c0, if_neg cd0]
            rw [en]
            obtain ⟨σ2, ρ2, b1, b2, b3, b4, b5, b6⟩ := ih (i + 1) (jo_y σ d x) x (jo_d σ d x) a σ ρ1 (by omega) hy hx (jo_d_z d x) ha T1 g33 (by rw [g5 34 (by decide)]; exact f4)
            refine ⟨σ2, ρ2, b1, b2, b3, b4, jo_S.c1 G1 g70 g70' b5, fun Q hQ => ?_⟩
            obtain ⟨f, hf⟩ := b6 Q hQ
            exact ⟨f + 1, start Q f (hop Q _ (nxt Q _ _ cd0 hf))⟩
        · obtain ⟨σ3, ρ3, T3, fC, gR, kk, wC, wR⟩ := S_beginAnew (θ := θ) T1 (p := jo_y σ d x) hy
          obtain ⟨ρ4, e4⟩ : ∃ z, z = sx_u ρ3 50 0 0 34 (nI (a + 1)) := ⟨_, rfl⟩
          have q4 : ∀ k n p, ¬ k = 50 → ρ4 k n p = ρ3 k n p := fun k n p h => by rw [e4, sx_u_row _ _ _ _ _ _ (by omega)]
          have q5 : ∀ j, ¬ j = 34 → ρ4 50 0 0 j = ρ3 50 0 0 j := fun j h => by rw [e4, sx_u_at, if_neg (by omega)]
          have q34 : ρ4 50 0 0 34 = nI (a + 1) := by rw [e4, sx_u_at]; simp
          have r34 : ρ3 50 0 0 34 = nI a := by rw [gR 50 0 0 (by decide), g5 34 (by decide)]; exact f4
          have T4 : pn_T P L v m 0 σ3 ρ4 := T3.sr (fun k n p h => q4 k n p (by omega)) (fun j h => q5 j (by omega))
          have G4 : jo_G ρ ρ4 := (G1.tr gR.jG).tr ⟨fun k n p h => q4 k n p (by omega), fun j h => q5 j (by omega)⟩
          have p33 : ρ4 50 0 0 33 = nI (i + 1) := by rw [q5 33 (by decide), gR 50 0 0 (by decide)]; exact g33
          have p70 : ρ4 70 0 0 = ρ1 70 0 0 := by rw [q4 70 0 0 (by decide), gR 70 0 0 (by decide)]
          have jq := kk.jq fC
          have hop : ∀ (Q : Int32 → sx_M → sx_L → Prop) (K : Int32 → Int32 → Int32 → sx_M → sx_L → Prop), (if nI (a + 1) = 2 then Q 4 ρ4 θ else wp_Mo_sends_b222 K Q (nI d) (nI x) (nI (jo_y σ d x)) (jo_d σ d x) ρ4 θ) → wp_Mo_sends_b117 K Q (nI d) (nI x) (nI (jo_y σ d x)) (jo_d σ d x) ρ θ := fun Q K h => by
            refine R_hop hT hx hy (by omega) f3 (fun z => absurd z c3) (fun _ z => by omega) (fun _ _ z => absurd z c0) (fun _ _ _ => ?_)
            rw [← e1]
            unfold wp_Mo_sends_b196
            refine wR _ ?_
            intro _ q
            rw [r34, nI_1, ← e4] at q; subst q
            rw [q34]; exact h
          have n2 : ¬ a = 1 → ¬ nI (a + 1) = 2 := fun ca z => by have := (nI_eq (b := 2) (by omega) (by decide)).mp z; omega
          have base : ∀ (e : Int32), jo_S i a (jo_2 (jo_y σ d x) (e, [], [], c)) ρ ρ4 := fun e => jo_S.c2 G4 (by rw [p70]; exact g70) (fun j hj => by rw [p70]; exact g70' j hj) (jo_S.e jo_G.rf p33 q34 (fun _ _ => rfl))
          have B1 : jo_B [jo_y σ d x] σ σ3 := ⟨σ3, rfl, fC, wC⟩
          by_cases ca : a = 1
          · have en : jo_n σ d (k + 1) x c dn a = jo_2 (jo_y σ d x) (4, [], [], c) := by unfold jo_n; rw [if_pos he, if_neg c3, if_neg c0, if_pos ca]; rfl
            rw [en]
            refine ⟨σ3, ρ4, B1, fC, kk.j, ?_, base 4, fun Q hQ => ⟨1, start Q 0 (hop Q _ ?_)⟩⟩
            · rw [if_neg (show ¬ (jo_2 (jo_y σ d x) (4, [], [], c)).1 = 5 by show ¬ (4 : Int32) = 5; decide)]; exact T4
            · rw [if_pos (by rw [ca]; rfl)]; exact hQ
          · by_cases cd0 : jo_y σ d x = d
            · have en : jo_n σ d (k + 1) x c dn a = jo_2 (jo_y σ d x) (0, [], [], c) := by unfold jo_n; rw [if_pos he, if_neg c3, if_neg c0, if_neg ca, if_pos cd0]; rfl
              rw [en]
              refine ⟨σ3, ρ4, B1, fC, kk.j, ?_, base 0, fun Q hQ => ⟨1, start Q 0 (hop Q _ ?_)⟩⟩
              · rw [if_neg (show ¬ (jo_2 (jo_y σ d x) (0, [], [], c)).1 = 5 by show ¬ (0 : Int32) = 5; decide)]; exact T4
              · rw [if_neg (n2 ca)]; unfold wp_Mo_sends_b222; rw [if_pos (by rw [cd0])]; exact hQ
            · have en : jo_n σ d (k + 1) x c dn a = jo_2 (jo_y σ d x) (jo_n σ d k (jo_y σ d x) x (jo_d σ d x) (a + 1)) := by rw [jo_n, if_pos he, if_neg c3, if_neg c0, if_neg ca, if_neg cd0]
              rw [en]
              obtain ⟨σ5, ρ5, b1, b2, b3, b4, b5, b6⟩ := ih (i + 1) (jo_y σ d x) x (jo_d σ d x) (a + 1) σ3 ρ4 (by omega) hy hx (jo_d_z d x) (by omega) T4 p33 q34
              rw [jo_n_c jq] at b1 b4 b5 b6
              refine ⟨σ5, ρ5, ⟨σ3, b1, fC, wC⟩, fC.tr b2, kk.j.tr b3, b4, jo_S.c2 G4 (by rw [p70]; exact g70) (fun j hj => by rw [p70]; exact g70' j hj) b5, fun Q hQ => ?_⟩
              obtain ⟨f, hf⟩ := b6 Q hQ
              refine ⟨f + 1, start Q f (hop Q _ ?_)⟩
              rw [if_neg (n2 ca)]
              exact nxt Q _ _ cd0 hf
    · have en : jo_n σ d (k + 1) x c dn a = (jo_e σ d x dn, [], [], c) := by unfold jo_n; rw [if_neg he]
      rw [en]
      by_cases c5 : jo_e σ d x dn = 5
      · have T2 := hT.setR (σ2 := sx_u σ 29 0 c d (-2)) hc hd (x := -2) (y := 0) (Or.inl rfl) (pn_f.rf.u ⟨by omega, rfl⟩) (fun q p h1 _ => by rw [sx_u_row _ _ _ _ _ _ (by omega)]) (fun p j => by rw [sx_u_at]; by_cases z : p = c ∧ j = d <;> simp [z]) (fun p j _ => by rw [sx_u_row _ _ _ _ _ _ (by omega)]) (fun z => absurd rfl z)
        refine ⟨σ, sx_u (sx_u ρ 68 0 0 (145 + 7 * c + d) (-2)) 68 0 0 (194 + 7 * c + d) 0, rfl, pn_f.rf, pn_j.rf, ?_, jo_S.e ?_ ?_ ?_ (fun j _ => ?_), fun Q hQ => ⟨1, ?_⟩⟩
        · rw [if_pos c5]; exact T2
        · exact ((pn_g.rf.u rfl).u rfl : pn_g ρ _).jG
        · rw [sx_u_row _ _ _ _ _ _ (by decide), sx_u_row _ _ _ _ _ _ (by decide)]; exact f3
        · rw [sx_u_row _ _ _ _ _ _ (by decide), sx_u_row _ _ _ _ _ _ (by decide)]; exact f4
        · rw [sx_u_row _ _ _ _ _ _ (by decide), sx_u_row _ _ _ _ _ _ (by decide)]
        · refine R_at hT hd hx hc (fun _ => ?_) (fun z => absurd c5 z) (fun z => absurd z he)
          rw [c5] at hQ; exact hQ
      · refine ⟨σ, ρ, rfl, pn_f.rf, pn_j.rf, ?_, jo_S.e jo_G.rf f3 f4 (fun _ _ => rfl), fun Q hQ => ⟨1, ?_⟩⟩
        · rw [if_neg c5]; exact hT
        · exact R_at hT hd hx hc (fun z => absurd z c5) (fun _ _ => hQ) (fun z => absurd z he)
/-- the reference: DATA goes -/
theorem S_sends {d s : Nat} (hd : d < P) (hs : s < P) (hT : pn_T P L v m 0 σ ρ) :
    ∃ σ2 ρ2, jo_B (jo_n σ d 20 s s 0 0).2.2.1 σ σ2 ∧ pn_f 0 σ σ2 ∧ pn_j 0 σ σ2 ∧ pn_T P L v m 0 (if (jo_n σ d 20 s s 0 0).1 = 5 then sx_u σ2 29 0 (jo_n σ d 20 s s 0 0).2.2.2 d (-2) else σ2) ρ2 ∧ jo_S 0 0 (jo_n σ d 20 s s 0 0) ρ ρ2 ∧ ∀ Q : Int32 → sx_M → sx_L → Prop, Q (jo_n σ d 20 s s 0 0).1 ρ2 θ → wp_Mo_sends (nI s) (nI d) ρ θ Q := by
  obtain ⟨ρ1, e1⟩ : ∃ z, z = sx_u (sx_u ρ 50 0 0 33 0) 50 0 0 34 0 := ⟨_, rfl⟩
  have g1 : ∀ k n p, ¬ k = 50 → ρ1 k n p = ρ k n p := fun k n p h => by rw [e1, sx_u_row _ _ _ _ _ _ (by omega), sx_u_row _ _ _ _ _ _ (by omega)]
  have g5 : ∀ j, ¬ (j = 33 ∨ j = 34) → ρ1 50 0 0 j = ρ 50 0 0 j := fun j h => by rw [e1, sx_u_at, if_neg (by omega), sx_u_at, if_neg (by omega)]
  have T1 : pn_T P L v m 0 σ ρ1 := hT.sr (fun k n p h => g1 k n p (by omega)) g5
  obtain ⟨σ2, ρ2, b1, b2, b3, b4, b5, b6⟩ := S_sendLoop (θ := θ) hd 20 0 s s 0 0 σ ρ1 rfl hs hs (Or.inl rfl) (by decide) T1 (by rw [e1, sx_u_at, if_neg (by omega), sx_u_at]; simp; rfl) (by rw [e1, sx_u_at]; simp; rfl)
  obtain ⟨c1, c2, c3, c4, c5⟩ := b5
  refine ⟨σ2, ρ2, b1, b2, b3, b4, ⟨jo_G.tr ⟨fun k n p h => g1 k n p (by omega), g5⟩ c1, c2, c3, fun j hj => absurd hj (Nat.not_lt_zero j), c5⟩, fun Q hQ => ?_⟩
  unfold wp_Mo_sends
  intro _ q; subst q
  intro _ q; rw [← e1] at q; subst q
  have := b6 Q hQ
  rw [if_pos rfl] at this
  exact this
end SENDS
