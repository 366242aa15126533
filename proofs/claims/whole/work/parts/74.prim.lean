/-- what reading a text may touch of the reference: its place in the text, faults, the side that doesn't live -/
def pr_g (v : Nat) (ρ ρ2 : sx_M) : Prop := (∀ k n p, ¬ (k = 50 ∨ k = 58 ∨ k = 59 ∨ (61 ≤ k ∧ k ≤ 66)) → ρ2 k n p = ρ k n p) ∧ (∀ j, ¬ (11 ≤ j ∧ j ≤ 15) → ρ2 50 0 0 j = ρ 50 0 0 j) ∧ (∀ k j, k = 58 ∨ k = 59 ∨ k = 65 → ¬ j = v → ρ2 k 0 0 j = ρ k 0 0 j) ∧ (∀ k j, k = 61 ∨ k = 62 ∨ k = 63 → ¬ (16 * v ≤ j ∧ j < 16 * v + 16) → ρ2 k 0 0 j = ρ k 0 0 j) ∧ (∀ j, ¬ (49 * v ≤ j ∧ j < 49 * v + 49) → ρ2 64 0 0 j = ρ 64 0 0 j) ∧ ∀ j, ¬ (9 * v ≤ j ∧ j < 9 * v + 9) → ρ2 66 0 0 j = ρ 66 0 0 j
def pr_l (v : Nat) (θ θ2 : sx_L) : Prop := (∀ k, ¬ k = 60 → θ2 k = θ k) ∧ ∀ j, ¬ (7 * v ≤ j ∧ j < 7 * v + 7) → θ2 60 j = θ 60 j
/-- going on; a fault; a wrong thing -/
def pr_n (ρ : sx_M) (m : Nat) : sx_M := sx_u ρ 50 0 0 11 (nI (m + 1))
def pr_f (ρ : sx_M) (k x : Nat) : sx_M := sx_u (sx_u ρ 50 0 0 12 (nI k)) 50 0 0 13 (nI x)
def pr_w (ρ : sx_M) (k x : Nat) : sx_M := if ρ 50 0 0 14 = 0 ∨ nI x < ρ 50 0 0 15 ∨ (nI x = ρ 50 0 0 15 ∧ nI k < ρ 50 0 0 14) then sx_u (sx_u ρ 50 0 0 14 (nI k)) 50 0 0 15 (nI x) else ρ
/-- the post of that name -/
def pr_m (θ : sx_L) (v : Nat) (x : Int64) : Nat → Nat → Int32
  | 0, _ => -1
  | c + 1, i => if θ 60 (7 * v + i) = x then nI i else pr_m θ v x c (i + 1)
section PRIM
variable {t nt v m p l : Nat} {σ σ2 ρ ρ2 : sx_M} {θ θ2 : sx_L} {B : Nat → Int32}
theorem pr_g.rf : pr_g v ρ ρ := ⟨fun _ _ _ _ => rfl, fun _ _ => rfl, fun _ _ _ _ => rfl, fun _ _ _ _ => rfl, fun _ _ => rfl, fun _ _ => rfl⟩
theorem pr_g.tr {a b c : sx_M} (h : pr_g v a b) (h2 : pr_g v b c) : pr_g v a c := ⟨fun k n p q => (h2.1 k n p q).trans (h.1 k n p q), fun j q => (h2.2.1 j q).trans (h.2.1 j q), fun k j q r => (h2.2.2.1 k j q r).trans (h.2.2.1 k j q r), fun k j q r => (h2.2.2.2.1 k j q r).trans (h.2.2.2.1 k j q r), fun j q => (h2.2.2.2.2.1 j q).trans (h.2.2.2.2.1 j q), fun j q => (h2.2.2.2.2.2 j q).trans (h.2.2.2.2.2 j q)⟩
theorem pr_g.u {a b : sx_M} (h : pr_g v a b) {k j : Nat} {x : Int32} (hk : (k = 50 ∧ 11 ≤ j ∧ j ≤ 15) ∨ ((k = 58 ∨ k = 59 ∨ k = 65) ∧ j = v) ∨ ((k = 61 ∨ k = 62 ∨ k = 63) ∧ 16 * v ≤ j ∧ j < 16 * v + 16) ∨ (k = 64 ∧ 49 * v ≤ j ∧ j < 49 * v + 49) ∨ (k = 66 ∧ 9 * v ≤ j ∧ j < 9 * v + 9)) : pr_g v a (sx_u b k 0 0 j x) := by
  obtain ⟨a1, a2, a3, a4, a5, a6⟩ := h
  refine ⟨fun k2 n p q => ?_, fun j2 q => ?_, fun k2 j2 q r => ?_, fun k2 j2 q r => ?_, fun j2 q => ?_, fun j2 q => ?_⟩
  · rw [sx_u_row _ _ _ _ _ _ (by omega)]; exact a1 k2 n p q
  · rw [sx_u_at, if_neg (by omega)]; exact a2 j2 q
  · rw [sx_u_at, if_neg (by omega)]; exact a3 k2 j2 q r
  · rw [sx_u_at, if_neg (by omega)]; exact a4 k2 j2 q r
  · rw [sx_u_at, if_neg (by omega)]; exact a5 j2 q
  · rw [sx_u_at, if_neg (by omega)]; exact a6 j2 q
theorem pr_l.rf : pr_l v θ θ := ⟨fun _ _ => rfl, fun _ _ => rfl⟩
theorem pr_l.tr {a b c : sx_L} (h : pr_l v a b) (h2 : pr_l v b c) : pr_l v a c := ⟨fun k q => (h2.1 k q).trans (h.1 k q), fun j q => (h2.2 j q).trans (h.2 j q)⟩
theorem pr_n_g : pr_g v ρ (pr_n ρ m) := pr_g.rf.u (Or.inl ⟨rfl, by decide, by decide⟩)
theorem pr_f_g (k x : Nat) : pr_g v ρ (pr_f ρ k x) := (pr_g.rf.u (Or.inl ⟨rfl, by decide, by decide⟩)).u (Or.inl ⟨rfl, by decide, by decide⟩)
theorem pr_w_g (k x : Nat) : pr_g v ρ (pr_w ρ k x) := by
  unfold pr_w
  split
  · exact (pr_g.rf.u (Or.inl ⟨rfl, by decide, by decide⟩)).u (Or.inl ⟨rfl, by decide, by decide⟩)
  · exact pr_g.rf
theorem pr_w_o (k x : Nat) {j : Nat} (h : ¬ (j = 14 ∨ j = 15)) : pr_w ρ k x 50 0 0 j = ρ 50 0 0 j := by
  unfold pr_w
  split
  · rw [sx_u_at, if_neg (by omega), sx_u_at, if_neg (by omega)]
  · rfl
theorem pr_w_r (k x : Nat) {q n p : Nat} (h : ¬ q = 50) : pr_w ρ k x q n p = ρ q n p := by
  unfold pr_w
  split
  · rw [sx_u_row _ _ _ _ _ _ (by omega), sx_u_row _ _ _ _ _ _ (by omega)]
  · rfl
/-- where the parser stands: at the m-th token, p posts and l links told, no fault -/
def pr_C (B : Nat → Int32) (t nt v m p l : Nat) (ρ : sx_M) (θ : sx_L) : Prop := tk_T B t nt ρ θ ∧ (ρ 50 0 0 18 = nI v ∧ v < 2) ∧ (ρ 50 0 0 11 = nI m ∧ m < nt) ∧ ρ 50 0 0 12 = 0 ∧ (ρ 58 0 0 v = nI p ∧ p ≤ 7) ∧ ρ 59 0 0 v = nI l ∧ l ≤ 16
theorem tk_T.mv (h : tk_T B t nt ρ θ) (hg : pr_g v ρ ρ2) (hl : pr_l v θ θ2) : tk_T B t nt ρ2 θ2 := by
  obtain ⟨a, b, c, d, e⟩ := h
  refine ⟨a, b, fun i hi => (c i hi).mv ?_ ?_ ?_ ?_, d, e⟩
  · rw [hg.1 53 0 0 (by omega)]
  · rw [hg.1 54 0 0 (by omega)]
  · rw [hg.1 55 0 0 (by omega)]
  · rw [hl.1 56 (by decide)]
theorem pr_C.mv (h : pr_C B t nt v m p l ρ θ) (hg : pr_g v ρ ρ2) (hl : pr_l v θ θ2) {m2 p2 l2 : Nat} (h11 : ρ2 50 0 0 11 = nI m2) (hm : m2 < nt) (h12 : ρ2 50 0 0 12 = 0) (h58 : ρ2 58 0 0 v = nI p2) (hp : p2 ≤ 7) (h59 : ρ2 59 0 0 v = nI l2) (hl2 : l2 ≤ 16) : pr_C B t nt v m2 p2 l2 ρ2 θ2 :=
  ⟨h.1.mv hg hl, ⟨by rw [hg.2.1 18 (by decide)]; exact h.2.1.1, h.2.1.2⟩, ⟨h11, hm⟩, h12, ⟨h58, hp⟩, h59, hl2⟩
theorem pr_C.b (h : pr_C B t nt v m p l ρ θ) : m ≤ 400 := by have := h.1.2.1; have := h.2.2.1.2; omega
/-- the next one is there -/
theorem pr_C.x (h : pr_C B t nt v m p l ρ θ) (h17 : tx_o B t m ≠ 17) (h4 : ¬ m = 400) : m + 1 < nt := by
  obtain ⟨⟨a, b, c, d, e⟩, -, ⟨-, hm⟩, -⟩ := h
  rcases Nat.lt_or_ge (m + 1) nt with z | z
  · exact z
  · rcases e with e | e
    · omega
    · rw [show nt - 1 = m by omega] at e; exact absurd e h17
theorem pr_C.n (h : pr_C B t nt v m p l ρ θ) (h17 : tx_o B t m ≠ 17) (h4 : ¬ m = 400) : pr_C B t nt v (m + 1) p l (pr_n ρ m) θ := by
  refine h.mv pr_n_g pr_l.rf (by unfold pr_n; rw [sx_u_at]; simp) (h.x h17 h4) ?_ ?_ h.2.2.2.2.1.2 ?_ h.2.2.2.2.2.2
  · unfold pr_n; rw [sx_u_at, if_neg (by omega)]; exact h.2.2.2.1
  · unfold pr_n; rw [sx_u_row _ _ _ _ _ _ (by decide)]; exact h.2.2.2.2.1.1
  · unfold pr_n; rw [sx_u_row _ _ _ _ _ _ (by decide)]; exact h.2.2.2.2.2.1
theorem pr_C.w (h : pr_C B t nt v m p l ρ θ) (k x : Nat) : pr_C B t nt v m p l (pr_w ρ k x) θ := by
  refine h.mv (pr_w_g k x) pr_l.rf ?_ h.2.2.1.2 ?_ ?_ h.2.2.2.2.1.2 ?_ h.2.2.2.2.2.2
  · rw [pr_w_o k x (by decide)]; exact h.2.2.1.1
  · rw [pr_w_o k x (by decide)]; exact h.2.2.2.1
  · rw [pr_w_r k x (by decide)]; exact h.2.2.2.2.1.1
  · rw [pr_w_r k x (by decide)]; exact h.2.2.2.2.2.1
theorem tx_rk_lt (s : Nat) (h : s ≤ 18) : tx_rk s < 40 := by
  unfold tx_rk
  split
  · omega
  · split
    · omega
    · split
      · omega
      · split
        · omega
        · split <;> omega
theorem R_is (h : pr_C B t nt v m p l ρ θ) {x : Int32} {k : Nat} (hx : x = nI k) (hk : k < 100) {Q : Int32 → sx_M → sx_L → Prop} (h1 : tx_rk (tx_o B t m) = k → Q 1 ρ θ) (h0 : ¬ tx_rk (tx_o B t m) = k → Q 0 ρ θ) : wp_Mo_is x ρ θ Q := by
  have hb := h.b
  obtain ⟨⟨-, -, tF, -⟩, -, ⟨h11, hm⟩, h12, -⟩ := h
  have rl := tx_rk_lt (tx_o B t m) (tx_s_le B t _)
  subst hx
  unfold wp_Mo_is wp_Mo_is_b24 wp_Mo_is_b25
  rw [h12, if_pos rfl, h11, nI_clamp (n := m) (by omega), (tF m hm).1]
  refine ⟨vp_in_nI (by omega) (by decide), ?_⟩
  by_cases c : tx_rk (tx_o B t m) = k
  · rw [if_pos (by rw [c])]; exact ⟨Or.inr rfl, h1 c⟩
  · rw [if_neg (fun z => c ((nI_eq (by omega) (by omega)).mp z))]; exact ⟨Or.inl rfl, h0 c⟩
theorem R_isF (h12 : ¬ ρ 50 0 0 12 = 0) {x : Int32} {Q : Int32 → sx_M → sx_L → Prop} (h : Q 0 ρ θ) : wp_Mo_is x ρ θ Q := by
  unfold wp_Mo_is wp_Mo_is_b24 wp_Mo_is_b25
  rw [if_neg h12]; exact ⟨Or.inl rfl, h⟩
theorem R_fail (h : pr_C B t nt v m p l ρ θ) {x : Int32} {k : Nat} (hx : x = nI k) {Q : sx_M → sx_L → Prop} (hq : Q (pr_f ρ k (tx_j B t m)) θ) : wp_Mo_fail x ρ θ Q := by
  have hb := h.b
  obtain ⟨⟨-, -, tF, -⟩, -, ⟨h11, hm⟩, h12, -⟩ := h
  subst hx
  unfold wp_Mo_fail
  rw [h12, if_pos (by decide)]
  intro _ q; subst q
  rw [show sx_u ρ 50 0 0 12 (nI k) 50 0 0 11 = nI m by rw [sx_u_at, if_neg (by omega)]; exact h11, nI_clamp (n := m) (by omega), sx_u_row _ _ _ _ _ _ (show ¬ (54 = 50 ∧ 0 = 0 ∧ 0 = 0) by decide), (tF m hm).2.1]
  refine ⟨vp_in_nI (by omega) (by decide), ?_⟩
  intro _ q; subst q
  exact hq
theorem R_failF {k : Nat} (hk : 1 ≤ k) (hk2 : k < 100) (h12 : ρ 50 0 0 12 = nI k) {x : Int32} {Q : sx_M → sx_L → Prop} (h : Q ρ θ) : wp_Mo_fail x ρ θ Q := by
  unfold wp_Mo_fail
  rw [h12, if_neg (nI_nle (by omega) (by omega))]; exact h
theorem R_goes (h : pr_C B t nt v m p l ρ θ) {Q : sx_M → sx_L → Prop} (h1 : ¬ m = 400 → Q (pr_n ρ m) θ) (h2 : m = 400 → Q (pr_f ρ 2 (tx_j B t m)) θ) : wp_Mo_goesOn ρ θ Q := by
  have hb := h.b
  unfold wp_Mo_goesOn wp_Mo_goesOn_b28
  rw [h.2.2.1.1]
  by_cases c : m = 400
  · rw [if_pos (show nI m = 400 by rw [c]; rfl)]
    exact R_fail h (k := 2) rfl (h2 c)
  · rw [if_neg (show ¬ nI m = 400 from fun z => c ((nI_eq (b := 400) (by omega) (by decide)).mp z)), nI_1]
    intro _ q; subst q
    exact h1 c
theorem R_wrong (h : pr_C B t nt v m p l ρ θ) {x y : Int32} {k i : Nat} (hx : x = nI k) (hk : k < 100) (hy : y = nI i) (hi : i < nt) {Q : sx_M → sx_L → Prop} (hq : Q (pr_w ρ k (tx_j B t i)) θ) : wp_Mo_wrong x y ρ θ Q := by
  obtain ⟨⟨-, tb, tF, -⟩, -, -, h12, -⟩ := h
  subst hx hy
  unfold wp_Mo_wrong wp_Mo_wrong_b45 wp_Mo_wrong_b46
  rw [nI_clamp (n := i) (by omega), (tF i hi).2.1, h12, if_neg (show ¬ (0 : Int32) < 0 by decide)]
  refine ⟨vp_in_nI (by omega) (by decide), ?_⟩
  unfold pr_w at hq
  by_cases c1 : ρ 50 0 0 14 = 0
  · rw [if_pos (Or.inl c1)] at hq
    rw [if_pos c1]
    intro _ q; subst q
    intro _ q; subst q
    exact hq
  · rw [if_neg c1]
    by_cases c2 : ρ 50 0 0 15 < nI (tx_j B t i)
    · rw [if_pos c2]
      rw [if_neg] at hq
      · exact hq
      · rintro (z | z | ⟨z, -⟩)
        · exact c1 z
        · exact Int32.lt_asymm z c2
        · rw [z] at c2; exact Int32.lt_irrefl c2
    · rw [if_neg c2]
      by_cases c3 : nI (tx_j B t i) = ρ 50 0 0 15
      · rw [if_pos c3]
        by_cases c4 : nI k < ρ 50 0 0 14
        · rw [if_pos c4]
          rw [if_pos (Or.inr (Or.inr ⟨c3, c4⟩))] at hq
          intro _ q; subst q
          intro _ q; subst q
          exact hq
        · rw [if_neg c4]
          rw [if_neg] at hq
          · exact hq
          · rintro (z | z | ⟨-, z⟩)
            · exact c1 z
            · rw [c3] at z; exact Int32.lt_irrefl z
            · exact c4 z
      · rw [if_neg c3]
        have c5 : nI (tx_j B t i) < ρ 50 0 0 15 := by
          rcases Int32.lt_or_eq_of_le (Int32.not_lt.mp c2) with z | z
          · exact z
          · exact absurd z c3
        rw [if_pos (Or.inr (Or.inl c5))] at hq
        intro _ q; subst q
        intro _ q; subst q
        exact hq
theorem pr_m_v {x : Int64} : ∀ (c i : Nat), pr_m θ v x c i = -1 ∨ ∃ j, i ≤ j ∧ j < i + c ∧ pr_m θ v x c i = nI j ∧ θ 60 (7 * v + j) = x
  | 0, i => Or.inl rfl
  | c + 1, i => by
    unfold pr_m
    by_cases z : θ 60 (7 * v + i) = x
    · rw [if_pos z]; exact Or.inr ⟨i, Nat.le_refl _, by omega, rfl, z⟩
    · rw [if_neg z]
      rcases pr_m_v c (i + 1) with q | ⟨j, q1, q2, q3, q4⟩
      · exact Or.inl q
      · exact Or.inr ⟨j, by omega, by omega, q3, q4⟩
theorem R_named (h : pr_C B t nt v m p l ρ θ) {x : Int64} {Q : Int32 → sx_M → sx_L → Prop} (hq : Q (pr_m θ v x p 0) ρ θ) : wp_Mo_named x ρ θ Q := by
  obtain ⟨-, ⟨h18, hv⟩, -, -, ⟨h58, hp⟩, -⟩ := h
  have go : ∀ (c i : Nat), i + c = p → Q (pr_m θ v x c i) ρ θ → ∃ f, wp_Mo_named_b2 Q f x (nI i) ρ θ := by
    intro c
    induction c with
    | zero =>
      intro i hi hq
      refine ⟨1, ?_⟩
      rw [wp_Mo_named_b2, h18, nI_clamp (n := v) (by omega), h58, if_pos (nI_le (by omega) (by omega))]
      exact ⟨vp_in_nI (by omega) (by decide), hq⟩
    | succ c ih =>
      intro i hi hq
      unfold pr_m at hq
      have e1 : (7 * nI v) + nI i = nI (7 * v + i) := by rw [show (7 : Int32) * nI v = nI (7 * v) from pk_mul 7 v, nI_add]
      by_cases z : θ 60 (7 * v + i) = x
      · rw [if_pos z] at hq
        refine ⟨1, ?_⟩
        rw [wp_Mo_named_b2, h18, nI_clamp (n := v) (by omega), h58, if_neg (nI_ge (by omega) (by omega)), e1, nI_clamp (n := 7 * v + i) (by omega), if_pos ((lg_0 _ _).mpr z)]
        exact ⟨vp_in_nI (by omega) (by decide), vp_in_nI (by omega) (by decide), hq⟩
      · rw [if_neg z] at hq
        obtain ⟨f, hf⟩ := ih (i + 1) (by omega) hq
        refine ⟨f + 1, ?_⟩
        rw [wp_Mo_named_b2, h18, nI_clamp (n := v) (by omega), h58, if_neg (nI_ge (by omega) (by omega)), e1, nI_clamp (n := 7 * v + i) (by omega), if_neg (fun q => z ((lg_0 _ _).mp q)), nI_1]
        exact ⟨vp_in_nI (by omega) (by decide), vp_in_nI (by omega) (by decide), hf⟩
  exact go p 0 (by omega) hq
/-- the number of a name -/
def tx_nm (B : Nat → Int32) (t m : Nat) : Int64 := lN (tx_v (fun i => tx_c B t (tx_j B t m + i)) (tx_n B t m))
/-- a post told ahead: its number, whether one is wrong -/
def pr_q (B : Nat → Int32) (t m : Nat) (ρ : sx_M) (r : Int32) : sx_M := if 0 ≤ r then ρ else pr_w ρ 4 (tx_j B t m)
theorem pr_q_g (r : Int32) : pr_g v ρ (pr_q B t m ρ r) := by
  unfold pr_q; split
  · exact pr_g.rf
  · exact pr_w_g _ _
theorem pr_C.q (h : pr_C B t nt v m p l ρ θ) (r : Int32) {i : Nat} : pr_C B t nt v m p l (pr_q B t i ρ r) θ := by
  unfold pr_q; split
  · exact h
  · exact h.w _ _
theorem R_postTold (h : pr_C B t nt v m p l ρ θ) {Q : Int32 → sx_M → sx_L → Prop} (h0 : ¬ tx_o B t m = 14 → Q (-1) (pr_f ρ 1 (tx_j B t m)) θ)
    (h1 : tx_o B t m = 14 → ¬ m = 400 → Q (pr_m θ v (tx_nm B t m) p 0) (pr_n (pr_q B t m ρ (pr_m θ v (tx_nm B t m) p 0)) m) θ)
    (h2 : tx_o B t m = 14 → m = 400 → Q (pr_m θ v (tx_nm B t m) p 0) (pr_f (pr_q B t m ρ (pr_m θ v (tx_nm B t m) p 0)) 2 (tx_j B t m)) θ) : wp_Mo_postTold ρ θ Q := by
  have hb := h.b
  have os := tx_s_le B t (tx_j B t m)
  unfold wp_Mo_postTold wp_Mo_postTold_b42
  refine R_is h (k := 1) rfl (by decide) (fun c => ?_) (fun c => ?_)
  · have c14 : tx_o B t m = 14 := by
      unfold tx_rk at c
      split at c
      · omega
      · split at c
        · assumption
        · split at c
          · omega
          · split at c
            · omega
            · split at c <;> omega
    have en : θ 56 m = tx_nm B t m := (h.1.2.2.1 m h.2.2.1.2).2.2.2 (by omega)
    rw [if_neg (by decide), h.2.2.1.1, nI_clamp (n := m) (by omega), en]
    refine ⟨vp_in_nI (by omega) (by decide), R_named h ?_⟩
    have h1' := h1 c14
    have h2' := h2 c14
    unfold pr_q at h1' h2'
    by_cases z : 0 ≤ pr_m θ v (tx_nm B t m) p 0
    · rw [if_pos z] at h1' h2'
      rw [if_pos z]
      exact R_goes h h1' h2'
    · rw [if_neg z] at h1' h2'
      rw [if_neg z]
      refine R_wrong h (k := 4) rfl (by decide) h.2.2.1.1 h.2.2.1.2 ?_
      exact R_goes (h.w _ _) h1' h2'
  · rw [if_pos rfl]
    refine R_fail h (k := 1) rfl (h0 fun z => c ?_)
    rw [z]; rfl
theorem R_postToldF {k : Nat} (hk : 1 ≤ k) (hk2 : k < 100) (h12 : ρ 50 0 0 12 = nI k) {Q : Int32 → sx_M → sx_L → Prop} (h : Q (-1) ρ θ) : wp_Mo_postTold ρ θ Q := by
  unfold wp_Mo_postTold
  refine R_isF (by rw [h12]; exact nI_ne0 (by omega) (by omega)) ?_
  rw [if_pos rfl]
  exact R_failF hk hk2 h12 h
theorem R_must (h : pr_C B t nt v m p l ρ θ) {Q : sx_M → sx_L → Prop} (h0 : ¬ tx_o B t m = 16 → Q (pr_f ρ 1 (tx_j B t m)) θ) (h1 : tx_o B t m = 16 → ¬ m = 400 → Q (pr_n ρ m) θ) (h2 : tx_o B t m = 16 → m = 400 → Q (pr_f ρ 2 (tx_j B t m)) θ) : wp_Mo_must 4 ρ θ Q := by
  have os := tx_s_le B t (tx_j B t m)
  unfold wp_Mo_must wp_Mo_must_b20
  refine R_is h (k := 4) rfl (by decide) (fun c => ?_) (fun c => ?_)
  · have c16 : tx_o B t m = 16 := by
      unfold tx_rk at c
      split at c
      · omega
      · split at c
        · omega
        · split at c
          · omega
          · split at c
            · assumption
            · split at c <;> omega
    rw [if_neg (by decide)]
    exact R_goes h (h1 c16) (h2 c16)
  · rw [if_pos rfl]
    refine R_fail h (k := 1) rfl (h0 fun z => c ?_)
    rw [z]; rfl
theorem R_mustF {k : Nat} (hk : 1 ≤ k) (hk2 : k < 100) (h12 : ρ 50 0 0 12 = nI k) {x : Int32} {Q : sx_M → sx_L → Prop} (h : Q ρ θ) : wp_Mo_must x ρ θ Q := by
  unfold wp_Mo_must wp_Mo_must_b20
  refine R_isF (by rw [h12]; exact nI_ne0 (by omega) (by omega)) ?_
  rw [if_pos rfl]
  exact R_failF hk hk2 h12 h
/-- an int, in its bounds or wrong -/
def pr_b (B : Nat → Int32) (t m : Nat) (ρ : sx_M) (a b : Nat) : sx_M := if tx_dv (fun i => tx_c B t (tx_j B t m + i)) (tx_n B t m) < a ∨ b < tx_dv (fun i => tx_c B t (tx_j B t m + i)) (tx_n B t m) then pr_w ρ 5 (tx_j B t m) else ρ
theorem pr_b_g (a b : Nat) : pr_g v ρ (pr_b B t m ρ a b) := by
  unfold pr_b; split
  · exact pr_w_g _ _
  · exact pr_g.rf
theorem pr_C.k (h : pr_C B t nt v m p l ρ θ) (a b : Nat) {i : Nat} : pr_C B t nt v m p l (pr_b B t i ρ a b) θ := by
  unfold pr_b; split
  · exact h.w _ _
  · exact h
/-- the digits of an int: few -/
theorem tx_15 (ht : t ≤ 2000) {m : Nat} (h17 : ∀ i, i < m → tx_o B t i ≠ 17) (h : tx_o B t m = 15) : tx_n B t m ≤ 4 ∧ 1 ≤ tx_n B t m ∧ tx_j B t m + tx_n B t m ≤ t ∧ (∀ i, i < tx_n B t m → tx_d (tx_c B t (tx_j B t m + i))) ∧ tx_dv (fun i => tx_c B t (tx_j B t m + i)) (tx_n B t m) < 10000 := by
  obtain ⟨-, jm⟩ := tx_p_le (B := B) ht m h17
  have pe : tx_p B t (m + 1) = tx_e B t (tx_j B t m) := rfl
  have ee := tx_e_le (B := B) ht jm
  unfold tx_o tx_s at h
  by_cases c : tx_j B t m < t
  · rw [if_pos c] at h
    by_cases c1 : tx_l (tx_c B t (tx_j B t m))
    · rw [if_pos c1] at h
      have := tx_fw_le (tx_v (fun i => tx_c B t (tx_j B t m + i)) (tx_e B t (tx_j B t m) - tx_j B t m)) 14 0 (by decide)
      split at h <;> omega
    · rw [if_neg c1] at h
      by_cases c2 : tx_d (tx_c B t (tx_j B t m))
      · rw [if_pos c2] at h
        obtain ⟨d1, d2, d3⟩ := tx_e_d (B := B) ht jm c1 c2
        by_cases c3 : tx_e B t (tx_j B t m) - tx_j B t m ≤ 4
        · have dl := tx_dv_lt (g := fun i => tx_c B t (tx_j B t m + i)) (tx_n B t m) (fun i hi => (d2 i hi).2)
          have p4 : 10 ^ tx_n B t m ≤ 10 ^ 4 := Nat.pow_le_pow_right (by decide) c3
          refine ⟨c3, ?_, ?_, d2, by omega⟩
          · unfold tx_n; rw [pe]; omega
          · unfold tx_n; rw [pe]; omega
        · rw [if_neg c3] at h; omega
      · rw [if_neg c2] at h
        split at h <;> omega
  · rw [if_neg c] at h; omega
theorem R_bounded (ht : t ≤ 2000) (h : pr_C B t nt v m p l ρ θ) {a b : Nat} (ha : a < 100) (hb9 : b ≤ 9999) {x y : Int32} (hx : x = nI a) (hy : y = nI b) {Q : Int32 → sx_M → sx_L → Prop} (h0 : ¬ tx_o B t m = 15 → Q (nI a) (pr_f ρ 1 (tx_j B t m)) θ)
    (h1 : tx_o B t m = 15 → ¬ m = 400 → Q (nI (tx_dv (fun i => tx_c B t (tx_j B t m + i)) (tx_n B t m))) (pr_n (pr_b B t m ρ a b) m) θ)
    (h2 : tx_o B t m = 15 → m = 400 → Q (nI (tx_dv (fun i => tx_c B t (tx_j B t m + i)) (tx_n B t m))) (pr_f (pr_b B t m ρ a b) 2 (tx_j B t m)) θ) : wp_Mo_bounded x y ρ θ Q := by
  have hb := h.b
  have os := tx_s_le B t (tx_j B t m)
  subst hx hy
  unfold wp_Mo_bounded wp_Mo_bounded_b15 wp_Mo_bounded_b42 wp_Mo_bounded_b51
  rw [h.2.2.2.1, if_neg (show ¬ (0 : Int32) < 0 by decide)]
  refine R_is h (k := 2) rfl (by decide) (fun c => ?_) (fun c => ?_)
  · have c15 : tx_o B t m = 15 := by
      unfold tx_rk at c
      split at c
      · omega
      · split at c
        · omega
        · split at c
          · assumption
          · split at c
            · omega
            · split at c <;> omega
    have h17 : ∀ i, i < m → tx_o B t i ≠ 17 := fun i hi => h.1.2.2.2.1 i (by have := h.2.2.1.2; omega)
    have vl := (tx_15 ht h17 c15).2.2.2.2
    have ev : ρ 55 0 0 m = nI (tx_dv (fun i => tx_c B t (tx_j B t m + i)) (tx_n B t m)) := (h.1.2.2.1 m h.2.2.1.2).2.2.1 c15
    rw [if_neg (by decide), h.2.2.1.1, nI_clamp (n := m) (by omega), ev]
    refine ⟨vp_in_nI (by omega) (by decide), ?_⟩
    have h1' := h1 c15
    have h2' := h2 c15
    unfold pr_b at h1' h2'
    generalize tx_dv (fun i => tx_c B t (tx_j B t m + i)) (tx_n B t m) = w at *
    by_cases z : w < a
    · rw [if_pos (Or.inl z)] at h1' h2'
      rw [if_pos (nI_lt z (by omega))]
      refine R_wrong h (k := 5) rfl (by decide) rfl h.2.2.1.2 ?_
      exact R_goes (h.w _ _) h1' h2'
    · rw [if_neg (nI_nlt (by omega) (by omega))]
      by_cases z2 : w ≤ b
      · rw [if_neg (by omega)] at h1' h2'
        rw [if_pos (nI_le z2 (by omega))]
        exact R_goes h h1' h2'
      · rw [if_pos (Or.inr (by omega))] at h1' h2'
        rw [if_neg (nI_ge (by omega) (by omega))]
        refine R_wrong h (k := 5) rfl (by decide) rfl h.2.2.1.2 ?_
        exact R_goes (h.w _ _) h1' h2'
  · rw [if_pos rfl]
    refine R_fail h (k := 1) rfl (h0 fun z => c ?_)
    rw [z]; rfl
theorem R_boundedF {k : Nat} (hk : 1 ≤ k) (hk2 : k < 100) (h12 : ρ 50 0 0 12 = nI k) {x y : Int32} {Q : Int32 → sx_M → sx_L → Prop} (h : Q x ρ θ) : wp_Mo_bounded x y ρ θ Q := by
  unfold wp_Mo_bounded wp_Mo_bounded_b15
  rw [h12, if_pos (show 0 < nI k from nI_lt (a := 0) (by omega) (by omega))]
  exact R_failF hk hk2 h12 h
end PRIM
