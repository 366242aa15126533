/-- DATA on its way, by what stands: how it ends where it is -/
def jo_e (σ : sx_M) (d x : Nat) (dn : Int32) : Int32 := if σ 29 0 x d = -2 then (if dn = 0 then (if x = 0 then 2 else if σ 27 0 x 3 = -2 then 1 else 0) else 5) else 0
/-- does it go down from there? -/
def jo_d (σ : sx_M) (d x : Nat) : Int32 := if σ 29 0 x d = -2 then 0 else 1
/-- where it would go -/
def jo_v (σ : sx_M) (d x : Nat) : Int32 := if σ 29 0 x d = -2 then σ 27 0 x 3 else σ 29 0 x d
def jo_y (σ : sx_M) (d x : Nat) : Nat := (jo_v σ d x).toNatClampNeg
/-- is the hop against the ranks? -/
def jo_a (σ : sx_M) (d x : Nat) : Int32 := if jo_d σ d x = 0 then (if σ 27 0 (jo_y σ d x) 2 - σ 27 0 x 2 < 0 then 0 else 1) else (if 0 < σ 27 0 (jo_y σ d x) 2 - σ 27 0 x 2 then 0 else 1)
/-- one hop ahead of the rest -/
def jo_1 (y : Nat) (r : Int32 × List Nat × List Nat × Nat) : Int32 × List Nat × List Nat × Nat := (r.1, y :: r.2.1, r.2.2.1, r.2.2.2)
def jo_2 (y : Nat) (r : Int32 × List Nat × List Nat × Nat) : Int32 × List Nat × List Nat × Nat := (r.1, y :: r.2.1, y :: r.2.2.1, r.2.2.2)
/-- its end, hops, those against the ranks, whence it came -/
def jo_n (σ : sx_M) (d : Nat) : Nat → Nat → Nat → Int32 → Nat → Int32 × List Nat × List Nat × Nat
  | 0, x, c, dn, _ => if jo_e σ d x dn = 0 then (if pn_nb σ 0 x (jo_y σ d x) = 0 then (3, [], [], c) else (6, [], [], c)) else (jo_e σ d x dn, [], [], c)
  | k + 1, x, c, dn, a => if jo_e σ d x dn = 0 then (if pn_nb σ 0 x (jo_y σ d x) = 0 then (3, [], [], c) else
      if jo_a σ d x = 0 then (if jo_y σ d x = d then (0, [jo_y σ d x], [], c) else jo_1 (jo_y σ d x) (jo_n σ d k (jo_y σ d x) x (jo_d σ d x) a))
      else (if a = 1 then (4, [jo_y σ d x], [jo_y σ d x], c) else if jo_y σ d x = d then (0, [jo_y σ d x], [jo_y σ d x], c) else jo_2 (jo_y σ d x) (jo_n σ d k (jo_y σ d x) x (jo_d σ d x) (a + 1))))
    else (jo_e σ d x dn, [], [], c)
/-- what it hangs on -/
def jo_q (σ σ2 : sx_M) : Prop := (∀ p, σ2 29 0 p = σ 29 0 p) ∧ (∀ p j, j < 7 → σ2 27 0 p j = σ 27 0 p j) ∧ σ2 18 0 0 = σ 18 0 0 ∧ ∀ p, σ2 13 0 p = σ 13 0 p
/-- what the journey's own fields are -/
def jo_F (σ σ2 : sx_M) : Prop := ∀ k n p, ¬ (k = 34 ∨ k = 35 ∨ k = 36) → σ2 k n p = σ k n p
section JOUR
variable {P L v m n : Nat} {σ σ2 ρ ρ2 : sx_M} {θ : sx_L}
theorem jo_F.q (h : jo_F σ σ2) : jo_q σ σ2 := ⟨fun p => h 29 0 p (by decide), fun p j _ => by rw [h 27 0 p (by decide)], h 18 0 0 (by decide), fun p => h 13 0 p (by decide)⟩
theorem jo_F.rf : jo_F σ σ := fun _ _ _ _ => rfl
theorem jo_F.tr {a b c : sx_M} (h : jo_F a b) (h2 : jo_F b c) : jo_F a c := fun k n p q => (h2 k n p q).trans (h k n p q)
theorem jo_F.u {a b : sx_M} (h : jo_F a b) {k n p f : Nat} {x : Int32} (hk : k = 34 ∨ k = 35 ∨ k = 36) : jo_F a (sx_u b k n p f x) := fun k2 n2 p2 q => by
  rw [sx_u_row _ _ _ _ _ _ (by omega)]; exact h k2 n2 p2 q
theorem jo_e_c (h : jo_q σ σ2) (d x : Nat) (dn : Int32) : jo_e σ2 d x dn = jo_e σ d x dn := by
  unfold jo_e; rw [h.1, h.2.1 x 3 (by decide)]
theorem jo_d_c (h : jo_q σ σ2) (d x : Nat) : jo_d σ2 d x = jo_d σ d x := by
  unfold jo_d; rw [h.1]
theorem jo_v_c (h : jo_q σ σ2) (d x : Nat) : jo_v σ2 d x = jo_v σ d x := by
  unfold jo_v; rw [h.1, h.2.1 x 3 (by decide)]
theorem jo_y_c (h : jo_q σ σ2) (d x : Nat) : jo_y σ2 d x = jo_y σ d x := by
  unfold jo_y; rw [jo_v_c h]
theorem jo_a_c (h : jo_q σ σ2) (d x : Nat) : jo_a σ2 d x = jo_a σ d x := by
  unfold jo_a; rw [jo_d_c h, jo_y_c h, h.2.1 _ 2 (by decide), h.2.1 x 2 (by decide)]
theorem jo_nb_c (h : jo_q σ σ2) (a b : Nat) : pn_nb σ2 0 a b = pn_nb σ 0 a b := by
  unfold pn_nb; rw [h.2.2.2, h.2.2.1, h.2.1 a 0 (by decide), h.2.1 b 0 (by decide)]
theorem jo_n_c (h : jo_q σ σ2) (d : Nat) : ∀ (k x c : Nat) (dn : Int32) (a : Nat), jo_n σ2 d k x c dn a = jo_n σ d k x c dn a
  | 0, x, c, dn, a => by
    unfold jo_n
    rw [jo_e_c h, jo_y_c h, jo_nb_c h]
  | k + 1, x, c, dn, a => by
    unfold jo_n
    rw [jo_e_c h, jo_y_c h, jo_nb_c h, jo_a_c h, jo_d_c h, jo_n_c h d k, jo_n_c h d k]
theorem jo_d_z (d x : Nat) : pn_z (jo_d σ d x) := by
  unfold jo_d pn_z; split <;> simp
/-- where it goes there is a post -/
theorem jo_y_v (h7 : P ≤ 7) (h3 : ∀ p, p < P → pn_o P (σ 27 0 p 3)) (h29 : ∀ p j, p < P → j < P → pn_o P (σ 29 0 p j)) {d x : Nat} (hd : d < P) (hx : x < P) {dn : Int32} (he : jo_e σ d x dn = 0) : jo_y σ d x < P ∧ jo_v σ d x = nI (jo_y σ d x) := by
  have key : ∃ q, q < P ∧ jo_v σ d x = nI q := by
    unfold jo_e at he
    unfold jo_v
    by_cases c : σ 29 0 x d = -2
    · rw [if_pos c] at he ⊢
      by_cases c1 : dn = 0
      · rw [if_pos c1] at he
        by_cases c2 : x = 0
        · rw [if_pos c2] at he; exact absurd he (by decide)
        · rw [if_neg c2] at he
          by_cases c3 : σ 27 0 x 3 = -2
          · rw [if_pos c3] at he; exact absurd he (by decide)
          · exact (h3 x hx).resolve_left c3
      · rw [if_neg c1] at he; exact absurd he (by decide)
    · rw [if_neg c]; exact (h29 x d hx hd).resolve_left c
  obtain ⟨q, hq, e⟩ := key
  have : jo_y σ d x = q := by unfold jo_y; exact cl_I e (by omega)
  rw [this]; exact ⟨hq, e⟩
theorem jo_n_v (h7 : P ≤ 7) (h3 : ∀ p, p < P → pn_o P (σ 27 0 p 3)) (h29 : ∀ p j, p < P → j < P → pn_o P (σ 29 0 p j)) {d : Nat} (hd : d < P) : ∀ (k x c : Nat) (dn : Int32) (a : Nat), x < P → c < P → a ≤ 1 → (jo_n σ d k x c dn a).2.1.length ≤ k ∧ a + (jo_n σ d k x c dn a).2.2.1.length ≤ 2 ∧ (∀ q ∈ (jo_n σ d k x c dn a).2.2.1, q < P) ∧ (jo_n σ d k x c dn a).2.2.2 < P
  | 0, x, c, dn, a, hx, hc, ha => by
    unfold jo_n
    split
    · split
      · exact ⟨Nat.le_refl _, by show a + 0 ≤ 2; omega, fun q hq => absurd hq List.not_mem_nil, hc⟩
      · exact ⟨Nat.le_refl _, by show a + 0 ≤ 2; omega, fun q hq => absurd hq List.not_mem_nil, hc⟩
    · exact ⟨Nat.le_refl _, by show a + 0 ≤ 2; omega, fun q hq => absurd hq List.not_mem_nil, hc⟩
  | k + 1, x, c, dn, a, hx, hc, ha => by
    unfold jo_n
    by_cases he : jo_e σ d x dn = 0
    · have hy := (jo_y_v h7 h3 h29 hd hx he).1
      rw [if_pos he]
      by_cases c1 : pn_nb σ 0 x (jo_y σ d x) = 0
      · rw [if_pos c1]
        exact ⟨Nat.zero_le _, by show a + 0 ≤ 2; omega, fun q hq => absurd hq List.not_mem_nil, hc⟩
      · rw [if_neg c1]
        by_cases c2 : jo_a σ d x = 0
        · rw [if_pos c2]
          by_cases c3 : jo_y σ d x = d
          · rw [if_pos c3]
            exact ⟨by show 1 ≤ k + 1; omega, by show a + 0 ≤ 2; omega, fun q hq => absurd hq List.not_mem_nil, hc⟩
          · rw [if_neg c3]
            obtain ⟨i1, i2, i3, i4⟩ := jo_n_v h7 h3 h29 hd k (jo_y σ d x) x (jo_d σ d x) a hy hx ha
            exact ⟨Nat.succ_le_succ i1, i2, i3, i4⟩
        · rw [if_neg c2]
          by_cases c4 : a = 1
          · rw [if_pos c4]
            exact ⟨by show 1 ≤ k + 1; omega, by show a + 1 ≤ 2; omega, fun q hq => by rw [List.mem_singleton.mp hq]; exact hy, hc⟩
          · rw [if_neg c4]
            by_cases c3 : jo_y σ d x = d
            · rw [if_pos c3]
              exact ⟨by show 1 ≤ k + 1; omega, by show a + 1 ≤ 2; omega, fun q hq => by rw [List.mem_singleton.mp hq]; exact hy, hc⟩
            · rw [if_neg c3]
              obtain ⟨i1, i2, i3, i4⟩ := jo_n_v h7 h3 h29 hd k (jo_y σ d x) x (jo_d σ d x) (a + 1) hy hx (by omega)
              refine ⟨Nat.succ_le_succ i1, ?_, fun q hq => ?_, i4⟩
              · show a + (_ + 1) ≤ 2; omega
              · rcases List.mem_cons.mp hq with z | z
                · rw [z]; exact hy
                · exact i3 q z
    · rw [if_neg he]
      exact ⟨Nat.zero_le _, by show a + 0 ≤ 2; omega, fun q hq => absurd hq List.not_mem_nil, hc⟩
/-- the class: how it ends where it is -/
theorem C_endAt (h7 : P ≤ 7) {d x : Nat} (hx : x < P) {dn : Int32} {Q : Int32 → sx_M → Prop} (h : Q (jo_e σ d x dn) σ) : wp_Jo_endAt (nI x) (jo_d σ d x) dn σ Q := by
  unfold wp_Jo_endAt wp_Jo_endAt_b40
  unfold jo_e at h
  unfold jo_d
  by_cases c : σ 29 0 x d = -2
  · rw [if_pos c] at h ⊢
    rw [if_pos rfl]
    by_cases c1 : dn = 0
    · rw [if_pos c1] at h ⊢
      by_cases c2 : x = 0
      · rw [if_pos c2] at h
        rw [if_pos (show nI x = 0 by rw [c2]; rfl)]; exact h
      · rw [if_neg c2] at h
        rw [if_neg (nI_ne0 (by omega) (by omega)), nI_clamp (n := x) (by omega)]
        refine ⟨vp_in_nI (by omega) (by decide), ?_⟩
        by_cases c3 : σ 27 0 x 3 = -2
        · rw [if_pos c3] at h ⊢; exact h
        · rw [if_neg c3] at h ⊢; exact h
    · rw [if_neg c1] at h ⊢; exact h
  · rw [if_neg c] at h ⊢
    rw [if_neg (by decide)]; exact h
/-- the hop is taken -/
def jo_t (σ : sx_M) (i y : Nat) : sx_M := sx_u (sx_u σ 35 0 0 i (nI y)) 34 0 0 2 (nI (i + 1))
def jo_g (σ : sx_M) (a y : Nat) : sx_M := sx_u (sx_u σ 36 0 0 a (nI y)) 34 0 0 4 (nI (a + 1))
theorem C_hop (hP : pn_P P L v σ ρ) {d x i a : Nat} (hx : x < P) (hy : jo_y σ d x < P) (hi : i ≤ 20) (ha : a ≤ 1) (h2 : σ 34 0 0 2 = nI i) (h4 : σ 34 0 0 4 = nI a) {Q : Int32 → sx_M → Prop}
    (k3 : pn_nb σ 0 x (jo_y σ d x) = 0 → Q 3 σ) (k6 : ¬ pn_nb σ 0 x (jo_y σ d x) = 0 → i = 20 → Q 6 σ)
    (k0 : ¬ pn_nb σ 0 x (jo_y σ d x) = 0 → i < 20 → jo_a σ d x = 0 → Q 0 (jo_t σ i (jo_y σ d x)))
    (k1 : ¬ pn_nb σ 0 x (jo_y σ d x) = 0 → i < 20 → ¬ jo_a σ d x = 0 → Q (if a = 1 then 4 else 0) (jo_g (jo_t σ i (jo_y σ d x)) a (jo_y σ d x))) :
    wp_Jo_endOfHop (nI x) (nI (jo_y σ d x)) (jo_d σ d x) σ Q := by
  have h7 := hP.1.1
  generalize ey : jo_y σ d x = y at *
  unfold wp_Jo_endOfHop
  refine C_near hP rfl rfl hx hy ?_
  by_cases c : pn_nb σ 0 x y = 0
  · rw [if_pos c]; exact k3 c
  · rw [if_neg c, h2]
    by_cases ci : i = 20
    · rw [if_neg (show ¬ nI i < 20 from nI_nlt (b := 20) (by omega) (by omega))]; exact k6 c ci
    · have hi2 : i < 20 := by omega
      rw [if_pos (show nI i < 20 from nI_lt (b := 20) hi2 (by decide)), nI_clamp (n := i) (by omega)]
      refine ⟨vp_in_nI hi2 (by decide), ?_⟩
      intro _ q; subst q
      intro s q
      have q2 : s = jo_t σ i y := by
        rw [q]; unfold jo_t
        rw [sx_u_row _ _ _ _ _ _ (show ¬ (34 = 35 ∧ 0 = 0 ∧ 0 = 0) by decide), h2, nI_1]
      clear q; subst q2
      have r27 : ∀ p, jo_t σ i y 27 0 p = σ 27 0 p := fun p => by
        unfold jo_t; rw [sx_u_row _ _ _ _ _ _ (by omega), sx_u_row _ _ _ _ _ _ (by omega)]
      have r4 : jo_t σ i y 34 0 0 4 = nI a := by
        unfold jo_t; rw [sx_u_at, if_neg (by omega), sx_u_row _ _ _ _ _ _ (by decide)]; exact h4
      refine ⟨vp_in_nI (by omega) (by decide), vp_in_nI (by omega) (by decide), ?_⟩
      rw [nI_clamp (n := x) (by omega), nI_clamp (n := y) (by omega), r27, r27]
      have K : wp_Jo_endOfHop_b100 Q (nI y) (jo_a σ d x) (jo_t σ i y) := by
        unfold wp_Jo_endOfHop_b100 wp_Jo_endOfHop_b135 wp_Jo_endOfHop_b148
        by_cases c0 : jo_a σ d x = 0
        · rw [if_pos c0, r4, if_neg (show ¬ nI a = 2 from fun z => by have := (nI_eq (b := 2) (by omega) (by decide)).mp z; omega)]
          exact k0 c hi2 c0
        · rw [if_neg c0, r4, if_neg (show ¬ 2 ≤ nI a from nI_ge (b := 2) (by omega) (by decide)), nI_clamp (n := a) (by omega)]
          refine ⟨vp_in_nI (by omega) (by decide), ?_⟩
          intro _ q; subst q
          intro s q
          have q2 : s = jo_g (jo_t σ i y) a y := by
            rw [q]; unfold jo_g
            rw [sx_u_row _ _ _ _ _ _ (show ¬ (34 = 36 ∧ 0 = 0 ∧ 0 = 0) by decide), r4, nI_1]
          clear q; subst q2
          have r5 : jo_g (jo_t σ i y) a y 34 0 0 4 = nI (a + 1) := by unfold jo_g; rw [sx_u_at]; simp
          have kk := k1 c hi2 c0
          rw [r5]
          by_cases c1 : a = 1
          · rw [if_pos c1] at kk
            rw [if_pos (show nI (a + 1) = 2 by rw [c1]; rfl)]; exact kk
          · rw [if_neg c1] at kk
            rw [if_neg (show ¬ nI (a + 1) = 2 from fun z => by have := (nI_eq (b := 2) (by omega) (by decide)).mp z; omega)]; exact kk
      unfold jo_a at K
      rw [ey] at K
      by_cases cd : jo_d σ d x = 0
      · rw [if_pos cd] at K ⊢
        by_cases cr : σ 27 0 y 2 - σ 27 0 x 2 < 0
        · rw [if_pos cr] at K ⊢; exact K
        · rw [if_neg cr] at K ⊢; exact K
      · rw [if_neg cd] at K ⊢
        by_cases cr : 0 < σ 27 0 y 2 - σ 27 0 x 2
        · rw [if_pos cr] at K ⊢; exact K
        · rw [if_neg cr] at K ⊢; exact K
/-- what the journey's fields tell behind it -/
def jo_R (i a : Nat) (r : Int32 × List Nat × List Nat × Nat) (σ σ2 : sx_M) : Prop := jo_F σ σ2 ∧ σ2 34 0 0 5 = r.1 ∧ σ2 34 0 0 2 = nI (i + r.2.1.length) ∧ σ2 34 0 0 4 = nI (a + r.2.2.1.length) ∧ σ2 34 0 0 6 = nI r.2.2.2 ∧ (∀ j, j < i → σ2 35 0 0 j = σ 35 0 0 j) ∧ (∀ j, j < r.2.1.length → σ2 35 0 0 (i + j) = nI (r.2.1.getD j 0)) ∧ (∀ j, j < a → σ2 36 0 0 j = σ 36 0 0 j) ∧ ∀ j, j < r.2.2.1.length → σ2 36 0 0 (a + j) = nI (r.2.2.1.getD j 0)
theorem jo_R.e {i a c : Nat} {e : Int32} (hF : jo_F σ σ2) (h5 : σ2 34 0 0 5 = e) (h2 : σ2 34 0 0 2 = nI i) (h4 : σ2 34 0 0 4 = nI a) (h6 : σ2 34 0 0 6 = nI c) (h35 : ∀ j, j < i → σ2 35 0 0 j = σ 35 0 0 j) (h36 : ∀ j, j < a → σ2 36 0 0 j = σ 36 0 0 j) : jo_R i a (e, [], [], c) σ σ2 :=
  ⟨hF, h5, h2, h4, h6, h35, fun j hj => absurd hj (Nat.not_lt_zero j), h36, fun j hj => absurd hj (Nat.not_lt_zero j)⟩
/-- one hop, and what follows -/
theorem jo_R.c1 {i a y : Nat} {r : Int32 × List Nat × List Nat × Nat} {σ1 : sx_M} (hF : jo_F σ σ1) (hy : σ1 35 0 0 i = nI y) (h35 : ∀ j, j < i → σ1 35 0 0 j = σ 35 0 0 j) (h36 : ∀ j, j < a → σ1 36 0 0 j = σ 36 0 0 j) (h : jo_R (i + 1) a r σ1 σ2) : jo_R i a (jo_1 y r) σ σ2 := by
  obtain ⟨a1, a2, a3, a4, a5, a6, a7, a8, a9⟩ := h
  refine ⟨hF.tr a1, a2, ?_, a4, a5, fun j hj => (a6 j (by omega)).trans (h35 j hj), fun j hj => ?_, fun j hj => (a8 j hj).trans (h36 j hj), a9⟩
  · rw [a3]; show nI (i + 1 + r.2.1.length) = nI (i + (r.2.1.length + 1)); congr 1; omega
  · cases j with
    | zero => rw [Nat.add_zero, a6 i (by omega)]; exact hy
    | succ j =>
      have hj2 : j < r.2.1.length := Nat.lt_of_succ_lt_succ hj
      rw [show i + (j + 1) = i + 1 + j by omega, a7 j hj2]; rfl
theorem jo_R.c2 {i a y : Nat} {r : Int32 × List Nat × List Nat × Nat} {σ1 : sx_M} (hF : jo_F σ σ1) (hy : σ1 35 0 0 i = nI y) (hg : σ1 36 0 0 a = nI y) (h35 : ∀ j, j < i → σ1 35 0 0 j = σ 35 0 0 j) (h36 : ∀ j, j < a → σ1 36 0 0 j = σ 36 0 0 j) (h : jo_R (i + 1) (a + 1) r σ1 σ2) : jo_R i a (jo_2 y r) σ σ2 := by
  obtain ⟨a1, a2, a3, a4, a5, a6, a7, a8, a9⟩ := h
  refine ⟨hF.tr a1, a2, ?_, ?_, a5, fun j hj => (a6 j (by omega)).trans (h35 j hj), fun j hj => ?_, fun j hj => (a8 j (by omega)).trans (h36 j hj), fun j hj => ?_⟩
  · rw [a3]; show nI (i + 1 + r.2.1.length) = nI (i + (r.2.1.length + 1)); congr 1; omega
  · rw [a4]; show nI (a + 1 + r.2.2.1.length) = nI (a + (r.2.2.1.length + 1)); congr 1; omega
  · cases j with
    | zero => rw [Nat.add_zero, a6 i (by omega)]; exact hy
    | succ j =>
      have hj2 : j < r.2.1.length := Nat.lt_of_succ_lt_succ hj
      rw [show i + (j + 1) = i + 1 + j by omega, a7 j hj2]; rfl
  · cases j with
    | zero => rw [Nat.add_zero, a8 a (by omega)]; exact hg
    | succ j =>
      have hj2 : j < r.2.2.1.length := Nat.lt_of_succ_lt_succ hj
      rw [show a + (j + 1) = a + 1 + j by omega, a9 j hj2]; rfl
end JOUR
