theorem lg_0 (x y : Int64) : lg_cmp x y = 0 ↔ x = y := by
  unfold lg_cmp
  constructor
  · intro h
    by_cases c : x > y
    · rw [if_pos c] at h; exact absurd h (by decide)
    · rw [if_neg c] at h
      by_cases c2 : x = y
      · exact c2
      · rw [if_neg c2] at h; exact absurd h (by decide)
  · intro h
    rw [h, if_neg (show ¬ y > y from Int64.lt_irrefl), if_pos rfl]
theorem sx_ul_at (θ : sx_L) (k f : Nat) (v : Int64) (k' j : Nat) : sx_ul θ k f v k' j = if k' = k ∧ j = f then v else θ k' j := by
  unfold sx_ul sx_rl
  by_cases h : k' = k
  · rw [if_pos h]
    by_cases hj : j = f
    · rw [if_pos ⟨h, hj⟩, hj, pk_uLs]
    · rw [if_neg (fun z => hj z.2), pk_uLn hj, h]
  · rw [if_neg h, if_neg (fun z => h z.1)]
/-- where the m-th token is looked for, where it stands, its sort -/
def tx_p (B : Nat → Int32) (t : Nat) : Nat → Nat
  | 0 => 0
  | m + 1 => tx_e B t (tx_r tx_b B t (tx_p B t m))
def tx_j (B : Nat → Int32) (t m : Nat) : Nat := tx_r tx_b B t (tx_p B t m)
def tx_o (B : Nat → Int32) (t m : Nat) : Nat := tx_s B t (tx_j B t m)
def tx_n (B : Nat → Int32) (t m : Nat) : Nat := tx_p B t (m + 1) - tx_j B t m
/-- the number of n digits -/
def tx_dv (g : Nat → Nat) : Nat → Nat
  | 0 => 0
  | n + 1 => 10 * tx_dv g n + (g n - 48)
theorem tx_dv_lt {g : Nat → Nat} : ∀ n, (∀ i, i < n → g i ≤ 57) → tx_dv g n < 10 ^ n
  | 0, _ => by show 0 < 1; decide
  | n + 1, h => by
    have := tx_dv_lt n (fun i hi => h i (by omega))
    have h2 := h n (by omega)
    show 10 * tx_dv g n + (g n - 48) < 10 ^ (n + 1)
    rw [Nat.pow_succ]
    omega
def tx_rk (s : Nat) : Nat := if s < 14 then 20 + s else if s = 14 then 1 else if s = 15 then 2 else if s = 16 then 4 else if s = 17 then 0 else 3
section PARTS
variable {t : Nat} {σ ρ ρ2 : sx_M} {θ θ2 : sx_L} {B : Nat → Int32}
theorem tx_s_17 {j : Nat} : tx_s B t j = 17 ↔ t ≤ j := by
  unfold tx_s
  by_cases c : j < t
  · rw [if_pos c]
    constructor
    · intro h
      by_cases c1 : tx_l (tx_c B t j)
      · rw [if_pos c1] at h
        by_cases c2 : tx_e B t j - j ≤ 8
        · rw [if_pos c2] at h
          have := tx_fw_le (tx_v (fun i => tx_c B t (j + i)) (tx_e B t j - j)) 14 0 (by decide)
          omega
        · rw [if_neg c2] at h; omega
      · rw [if_neg c1] at h
        by_cases c2 : tx_d (tx_c B t j)
        · rw [if_pos c2] at h
          by_cases c3 : tx_e B t j - j ≤ 4
          · rw [if_pos c3] at h; omega
          · rw [if_neg c3] at h; omega
        · rw [if_neg c2] at h
          by_cases c3 : tx_c B t j = 59
          · rw [if_pos c3] at h; omega
          · rw [if_neg c3] at h; omega
    · intro h; omega
  · rw [if_neg c]
    exact ⟨fun _ => by omega, fun _ => rfl⟩
theorem tx_s_le (B : Nat → Int32) (t j : Nat) : tx_s B t j ≤ 18 := by
  unfold tx_s
  have := tx_fw_le (tx_v (fun i => tx_c B t (j + i)) (tx_e B t j - j)) 14 0 (by decide)
  split
  · split
    · split <;> omega
    · split
      · split <;> omega
      · split <;> omega
  · omega
theorem tx_p_le (ht : t ≤ 2000) : ∀ m, (∀ i, i < m → tx_o B t i ≠ 17) → tx_p B t m ≤ t ∧ tx_j B t m ≤ t
  | 0, _ => by
    have := (tx_r_spec tx_b (by decide) B (t := t) (i := 0) ht).2.2.2 (Nat.zero_le _)
    exact ⟨Nat.zero_le _, this⟩
  | m + 1, h => by
    obtain ⟨a, b⟩ := tx_p_le ht m (fun i hi => h i (by omega))
    have hj : tx_j B t m < t := Nat.lt_of_not_le fun z => h m (by omega) (tx_s_17.mpr z)
    have e1 : tx_p B t (m + 1) ≤ t := (tx_e_le (B := B) ht b).2.1 hj
    exact ⟨e1, (tx_r_spec tx_b (by decide) B (t := t) (i := tx_p B t (m + 1)) ht).2.2.2 e1⟩
/-- places grow -/
theorem tx_j_lt (ht : t ≤ 2000) {m : Nat} (h : ∀ i, i ≤ m → tx_o B t i ≠ 17) : tx_j B t m < tx_p B t (m + 1) ∧ tx_p B t (m + 1) ≤ tx_j B t (m + 1) := by
  obtain ⟨a, b⟩ := tx_p_le (B := B) ht m (fun i hi => h i (by omega))
  exact ⟨(tx_e_le (B := B) ht b).1, (tx_r_spec tx_b (by decide) B (t := t) (i := tx_p B t (m + 1)) ht).1⟩
/-- a token as the reference keeps it -/
def tk_F (B : Nat → Int32) (t : Nat) (ρ : sx_M) (θ : sx_L) (m : Nat) : Prop := ρ 53 0 0 m = nI (tx_rk (tx_o B t m)) ∧ ρ 54 0 0 m = nI (tx_j B t m) ∧ (tx_o B t m = 15 → ρ 55 0 0 m = nI (tx_dv (fun i => tx_c B t (tx_j B t m + i)) (tx_n B t m))) ∧ (tx_o B t m ≤ 14 → θ 56 m = lN (tx_v (fun i => tx_c B t (tx_j B t m + i)) (tx_n B t m)))
/-- what the parts leave alone -/
def tk_g (ρ ρ2 : sx_M) : Prop := (∀ k n p, ¬ (k = 50 ∨ k = 53 ∨ k = 54 ∨ k = 55) → ρ2 k n p = ρ k n p) ∧ ∀ j, ¬ j = 10 → ρ2 50 0 0 j = ρ 50 0 0 j
def tk_l (θ θ2 : sx_L) : Prop := ∀ k, ¬ k = 56 → θ2 k = θ k
theorem tk_g.rf : tk_g ρ ρ := ⟨fun _ _ _ _ => rfl, fun _ _ => rfl⟩
theorem tk_g.tr {a b c : sx_M} (h : tk_g a b) (h2 : tk_g b c) : tk_g a c := ⟨fun k n p q => (h2.1 k n p q).trans (h.1 k n p q), fun j q => (h2.2 j q).trans (h.2 j q)⟩
theorem tk_g.R (h : tk_g ρ ρ2) (hR : tx_R t B ρ) : tx_R t B ρ2 := ⟨hR.1, by rw [h.2 4 (by decide)]; exact hR.2.1, fun i hi => by rw [h.1 52 0 0 (by decide)]; exact hR.2.2 i hi⟩
/-- one more token -/
theorem R_token {m : Nat} (hm : m ≤ 400) (h10 : ρ 50 0 0 10 = nI m) (x1 x2 x3 : Int32) (x4 : Int64) : ∃ ρ2 θ2, (ρ2 53 0 0 m = x1 ∧ ρ2 54 0 0 m = x2 ∧ ρ2 55 0 0 m = x3 ∧ θ2 56 m = x4) ∧ (∀ i, ¬ i = m → ρ2 53 0 0 i = ρ 53 0 0 i ∧ ρ2 54 0 0 i = ρ 54 0 0 i ∧ ρ2 55 0 0 i = ρ 55 0 0 i ∧ θ2 56 i = θ 56 i) ∧ ρ2 50 0 0 10 = nI (m + 1) ∧ tk_g ρ ρ2 ∧ tk_l θ θ2 ∧ ∀ Q : sx_M → sx_L → Prop, Q ρ2 θ2 → wp_Mo_token x1 x2 x3 x4 ρ θ Q := by
  refine ⟨sx_u (sx_u (sx_u (sx_u ρ 53 0 0 m x1) 54 0 0 m x2) 55 0 0 m x3) 50 0 0 10 (nI (m + 1)), sx_ul θ 56 m x4, ⟨?_, ?_, ?_, ?_⟩, fun i hi => ⟨?_, ?_, ?_, ?_⟩, ?_, ⟨fun k n p h => ?_, fun j h => ?_⟩, fun k h => ?_, fun Q hQ => ?_⟩
  · rw [sx_u_row _ _ _ _ _ _ (by decide), sx_u_row _ _ _ _ _ _ (by decide), sx_u_row _ _ _ _ _ _ (by decide), sx_u_at]; simp
  · rw [sx_u_row _ _ _ _ _ _ (by decide), sx_u_row _ _ _ _ _ _ (by decide), sx_u_at]; simp
  · rw [sx_u_row _ _ _ _ _ _ (by decide), sx_u_at]; simp
  · rw [sx_ul_at]; simp
  · rw [sx_u_row _ _ _ _ _ _ (by decide), sx_u_row _ _ _ _ _ _ (by decide), sx_u_row _ _ _ _ _ _ (by decide), sx_u_at, if_neg (by omega)]
  · rw [sx_u_row _ _ _ _ _ _ (by decide), sx_u_row _ _ _ _ _ _ (by decide), sx_u_at, if_neg (by omega), sx_u_row _ _ _ _ _ _ (by decide)]
  · rw [sx_u_row _ _ _ _ _ _ (by decide), sx_u_at, if_neg (by omega), sx_u_row _ _ _ _ _ _ (by decide), sx_u_row _ _ _ _ _ _ (by decide)]
  · rw [sx_ul_at, if_neg (by omega)]
  · rw [sx_u_at]; simp
  · rw [sx_u_row _ _ _ _ _ _ (by omega), sx_u_row _ _ _ _ _ _ (by omega), sx_u_row _ _ _ _ _ _ (by omega), sx_u_row _ _ _ _ _ _ (by omega)]
  · rw [sx_u_at, if_neg (by omega), sx_u_row _ _ _ _ _ _ (by decide), sx_u_row _ _ _ _ _ _ (by decide), sx_u_row _ _ _ _ _ _ (by decide)]
  · unfold sx_ul; exact sx_rl_ne h
  · have cm : (nI m).toNatClampNeg = m := nI_clamp (by omega)
    have im : vp_in (nI m) 403 := vp_in_nI (by omega) (by decide)
    unfold wp_Mo_token
    rw [h10, cm]
    refine ⟨im, ?_⟩
    intro _ q; subst q
    rw [sx_u_row _ _ _ _ _ _ (show ¬ (50 = 53 ∧ 0 = 0 ∧ 0 = 0) by decide), h10, cm]
    refine ⟨im, ?_⟩
    intro _ q; subst q
    rw [sx_u_row _ _ _ _ _ _ (show ¬ (50 = 54 ∧ 0 = 0 ∧ 0 = 0) by decide), sx_u_row _ _ _ _ _ _ (show ¬ (50 = 53 ∧ 0 = 0 ∧ 0 = 0) by decide), h10, cm]
    refine ⟨im, ?_⟩
    intro _ q; subst q
    rw [sx_u_row _ _ _ _ _ _ (show ¬ (50 = 55 ∧ 0 = 0 ∧ 0 = 0) by decide), sx_u_row _ _ _ _ _ _ (show ¬ (50 = 54 ∧ 0 = 0 ∧ 0 = 0) by decide), sx_u_row _ _ _ _ _ _ (show ¬ (50 = 53 ∧ 0 = 0 ∧ 0 = 0) by decide), h10, cm, nI_1]
    refine ⟨im, ?_⟩
    intro _ q; subst q
    intro _ q; subst q
    exact hQ
theorem R_appends {a b : Nat} (hb : tx_l b) {Q : Int64 → sx_M → sx_L → Prop} (h : Q (lN (27 * a + (b - 96))) ρ θ) : wp_Mo_appends (lN a) (nI b) ρ θ Q := by
  obtain ⟨b1, b2⟩ := hb
  unfold wp_Mo_appends wp_Mo_appends_b21
  rw [if_neg (nI_ne0 (by omega) (by omega)), show nI b - 97 = nI (b - 97) from pk_sub (b := 97) b1, nI_1, nI_l (by omega), show (27 : Int64) * lN a = lN (27 * a) from lN_mul 27 a, lN_add, show b - 97 + 1 = b - 96 by omega]
  exact h
/-- a byte as the reference reads it: a letter or a digit lies in the text -/
theorem R_byteL (hR : tx_R t B ρ) {x : Int32} {i : Nat} (hx : x = nI i) (hi : i < 2 ^ 30) {Q : Int32 → sx_M → sx_L → Prop} (h : ∀ b, b < 256 → (i < t → b = tx_c B t i) → (t ≤ i → b = 0) → Q (nI b) ρ θ) : wp_Mo_byteAt x ρ θ Q := by
  refine R_byteAt hR hx hi ?_
  by_cases c : i < t
  · rw [if_pos c]; exact h _ (tx_c_lt c) (fun _ => rfl) (fun z => by omega)
  · rw [if_neg c]; exact h 0 (by decide) (fun z => by omega) (fun _ => rfl)
/-- letters -/
theorem R_letters (hR : tx_R t B ρ) (hk : ∀ i, i < 14 → θ 57 i = pn_ky.getD i 0) {m j : Nat} (hm : m ≤ 400) (h10 : ρ 50 0 0 10 = nI m) (hj : j ≤ t) (c : tx_l (tx_c B t j)) {K : Int32 → sx_M → sx_L → Prop} {Q : sx_M → sx_L → Prop}
    (h : ∀ Q2 : sx_M → sx_L → Prop, (∀ ρ2 θ2, Q2 ρ2 θ2 → K (nI (tx_e B t j)) ρ2 θ2) → wp_Mo_token (nI (tx_rk (tx_s B t j))) (nI j) 0 (lN (tx_v (fun i => tx_c B t (j + i)) (min (tx_e B t j - j) 8))) ρ θ (fun ρ2 θ2 => K (nI (tx_e B t j)) ρ2 θ2)) :
    ∃ f, wp_Mo_parts_b85 K Q f (nI j) 0 0 ρ θ := by
  obtain ⟨ht, r1, r2⟩ := id hR
  have jt : j < t := Nat.lt_of_not_le fun z => by rw [tx_c_out z] at c; exact absurd c (by decide)
  obtain ⟨l1, l2, l3⟩ := tx_e_l (B := B) ht hj c
  have hh := h (fun ρ2 θ2 => K (nI (tx_e B t j)) ρ2 θ2) (fun _ _ q => q)
  clear h
  have le := (tx_e_le (B := B) ht hj).1
  obtain ⟨n, en⟩ : ∃ n, n = tx_e B t j - j := ⟨_, rfl⟩
  have ej : tx_e B t j = j + n := by omega
  have es : tx_s B t j = if n ≤ 8 then tx_fw (tx_v (fun i => tx_c B t (j + i)) n) 14 0 else 18 := by unfold tx_s; rw [if_pos jt, if_pos c, ← en]
  rw [← en] at hh l2
  have g := fun i => tx_c B t (j + i)
  have go : ∀ (d i : Nat), i + d = n → ∃ f, wp_Mo_parts_b85 K Q f (nI j) (nI i) (lN (tx_v (fun i => tx_c B t (j + i)) (min i 8))) ρ θ := by
    intro d
    induction d with
    | zero =>
      intro i hi
      have ei : i = n := by omega
      rw [ei]
      refine ⟨1, ?_⟩
      rw [wp_Mo_parts_b85, nI_add]
      refine R_byteL hR rfl (by omega) (fun b hb b1 b2 => ?_)
      have nl : ¬ tx_l b := fun z => by
        by_cases q : j + n < t
        · rw [b1 q, ← ej] at z; exact l3 z
        · rw [b2 (by omega)] at z; exact absurd z (by decide)
      refine R_isLetter rfl hb (fun z => absurd z nl) (fun _ => ?_)
      rw [if_pos rfl]
      unfold wp_Mo_parts_b135
      have fin : ∀ w0 : Int32, w0 = nI (tx_rk (tx_s B t j)) → wp_Mo_parts_b179 K Q (nI j) (nI n) (lN (tx_v (fun i => tx_c B t (j + i)) (min n 8))) w0 ρ θ := fun w0 ew => by
        unfold wp_Mo_parts_b179 wp_Mo_parts_b291
        rw [nI_add, ew, ← ej]; exact hh
      by_cases c8 : n ≤ 8
      · rw [if_pos (show nI n ≤ 8 from nI_le (b := 8) c8 (by decide)), if_neg (show ¬ 8 < nI n from nI_nlt (a := 8) c8 (by decide))]
        have vlt : tx_v (fun i => tx_c B t (j + i)) n < 2 ^ 63 := by
          have a := tx_v_lt (g := fun i => tx_c B t (j + i)) n (fun i hi => (l2 i hi).2)
          have b : 27 ^ n ≤ 27 ^ 8 := Nat.pow_le_pow_right (by decide) c8
          have : (27 : Nat) ^ 8 < 2 ^ 63 := by decide
          omega
        have mn : min n 8 = n := Nat.min_eq_left c8
        have loop : ∀ (k w a : Nat), w + k = 14 → tx_lw (tx_v (fun i => tx_c B t (j + i)) n) k w a = tx_rk (tx_s B t j) → a < 2 ^ 30 → ∃ f, wp_Mo_parts_b146 K Q f (nI j) (nI n) (lN (tx_v (fun i => tx_c B t (j + i)) (min n 8))) (nI a) (nI w) ρ θ := by
          intro k
          induction k with
          | zero =>
            intro w a hw ha _
            refine ⟨1, ?_⟩
            rw [wp_Mo_parts_b146, if_pos (show 14 ≤ nI w from nI_le (a := 14) (by omega) (by omega))]
            refine fin _ ?_
            have : tx_lw (tx_v (fun i => tx_c B t (j + i)) n) 0 w a = a := rfl
            rw [← ha, this]
          | succ k ih =>
            intro w a hw ha al
            have ha' : tx_lw (tx_v (fun i => tx_c B t (j + i)) n) k (w + 1) (if tx_v (fun i => tx_c B t (j + i)) n = tx_wk w then 20 + w else a) = tx_rk (tx_s B t j) := ha
            have ky : θ 57 w = lN (tx_wk w) := by rw [hk w (by omega)]; exact (tx_w_ok w (by omega)).2.2.2
            have kl : tx_wk w < 2 ^ 63 := Nat.lt_trans (tx_wk_lt w (by omega)) (by decide)
            obtain ⟨f, hf⟩ := ih (w + 1) (if tx_v (fun i => tx_c B t (j + i)) n = tx_wk w then 20 + w else a) (by omega) ha' (by split <;> omega)
            refine ⟨f + 1, ?_⟩
            rw [wp_Mo_parts_b146, if_neg (show ¬ 14 ≤ nI w from nI_ge (b := 14) (by omega) (by decide)), nI_clamp (n := w) (by omega), ky]
            refine ⟨vp_in_nI (by omega) (by decide), ?_⟩
            unfold wp_Mo_parts_b173
            rw [show (20 : Int32) + nI w = nI (20 + w) from nI_add 20 w, nI_1]
            rw [mn] at hf ⊢
            by_cases z : tx_v (fun i => tx_c B t (j + i)) n = tx_wk w
            · rw [if_pos z] at hf
              rw [if_pos ((lg_0 _ _).mpr (by rw [z]))]; exact hf
            · rw [if_neg z] at hf
              rw [if_neg (fun q => z ((pk_lEQ kl vlt).mp ((lg_0 _ _).mp q)).symm)]; exact hf
        refine loop 14 0 1 rfl ?_ (by decide)
        rw [tx_w_same, es, if_pos c8]
        have q := tx_fw_le (tx_v (fun i => tx_c B t (j + i)) n) 14 0 (by decide)
        generalize tx_fw (tx_v (fun i => tx_c B t (j + i)) n) 14 0 = w at q ⊢
        unfold tx_rk
        by_cases z : w < 14
        · rw [if_pos z, if_pos z]
        · rw [if_neg z, if_neg z, if_pos (by omega)]
      · rw [if_neg (show ¬ nI n ≤ 8 from nI_ge (a := 8) (by omega) (by omega)), if_pos (show 8 < nI n from nI_lt (a := 8) (by omega) (by omega))]
        refine fin _ ?_
        rw [es, if_neg c8]; rfl
    | succ d ih =>
      intro i hi
      obtain ⟨f, hf⟩ := ih (i + 1) (by omega)
      have li := l2 i (by omega)
      refine ⟨f + 1, ?_⟩
      rw [wp_Mo_parts_b85, nI_add]
      refine R_byteL hR rfl (by omega) (fun b hb b1 b2 => ?_)
      have e1 : b = tx_c B t (j + i) := b1 (by omega)
      refine R_isLetter rfl hb (fun _ => ?_) (fun z => absurd (by rw [e1]; exact li) z)
      rw [if_neg (by decide)]
      unfold wp_Mo_parts_b118
      by_cases c8 : 8 ≤ i
      · rw [if_pos (show 8 ≤ nI i from nI_le (a := 8) c8 (by omega)), nI_1]
        rw [Nat.min_eq_right c8]
        rw [Nat.min_eq_right (show 8 ≤ i + 1 by omega)] at hf
        exact hf
      · rw [if_neg (show ¬ 8 ≤ nI i from nI_ge (b := 8) (by omega) (by decide))]
        refine R_byteL hR rfl (by omega) (fun b' hb' b1' b2' => ?_)
        have e2 : b' = tx_c B t (j + i) := b1' (by omega)
        rw [Nat.min_eq_left (show i ≤ 8 by omega)]
        refine R_appends (by rw [e2]; exact li) ?_
        rw [Nat.min_eq_left (show i + 1 ≤ 8 by omega)] at hf
        rw [nI_1, e2]
        exact hf
  exact go n 0 (by omega)
/-- digits -/
theorem R_digits (hR : tx_R t B ρ) {m j : Nat} (hm : m ≤ 400) (h10 : ρ 50 0 0 10 = nI m) (hj : j ≤ t) (c0 : ¬ tx_l (tx_c B t j)) (c : tx_d (tx_c B t j)) {K : Int32 → sx_M → sx_L → Prop} {Q : sx_M → sx_L → Prop}
    (hh : wp_Mo_token (nI (tx_rk (tx_s B t j))) (nI j) (nI (tx_dv (fun i => tx_c B t (j + i)) (min (tx_e B t j - j) 4))) 0 ρ θ (fun ρ2 θ2 => K (nI (tx_e B t j)) ρ2 θ2)) :
    ∃ f, wp_Mo_parts_b208 K Q f (nI j) 0 0 ρ θ := by
  obtain ⟨ht, r1, r2⟩ := id hR
  have jt : j < t := Nat.lt_of_not_le fun z => by rw [tx_c_out z] at c; exact absurd c (by decide)
  obtain ⟨l1, l2, l3⟩ := tx_e_d (B := B) ht hj c0 c
  have le := (tx_e_le (B := B) ht hj).1
  obtain ⟨n, en⟩ : ∃ n, n = tx_e B t j - j := ⟨_, rfl⟩
  have ej : tx_e B t j = j + n := by omega
  have es : tx_s B t j = if n ≤ 4 then 15 else 18 := by unfold tx_s; rw [if_pos jt, if_neg c0, if_pos c, ← en]
  rw [← en] at hh l2
  have go : ∀ (d i : Nat), i + d = n → ∃ f, wp_Mo_parts_b208 K Q f (nI j) (nI i) (nI (tx_dv (fun i => tx_c B t (j + i)) (min i 4))) ρ θ := by
    intro d
    induction d with
    | zero =>
      intro i hi
      have ei : i = n := by omega
      rw [ei]
      refine ⟨1, ?_⟩
      rw [wp_Mo_parts_b208, nI_add]
      refine R_byteL hR rfl (by omega) (fun b hb b1 b2 => ?_)
      have nl : ¬ tx_d b := fun z => by
        by_cases q : j + n < t
        · rw [b1 q, ← ej] at z; exact l3 z
        · rw [b2 (by omega)] at z; exact absurd z (by decide)
      refine R_isDigit rfl hb (fun z => absurd z nl) (fun _ => ?_)
      rw [if_pos rfl]
      unfold wp_Mo_parts_b261 wp_Mo_parts_b291
      rw [nI_add, ← ej]
      by_cases c4 : n ≤ 4
      · rw [if_pos (show nI n ≤ 4 from nI_le (b := 4) c4 (by decide))]
        rw [es, if_pos c4] at hh
        exact hh
      · rw [if_neg (show ¬ nI n ≤ 4 from nI_ge (a := 4) (by omega) (by omega))]
        rw [es, if_neg c4] at hh
        exact hh
    | succ d ih =>
      intro i hi
      obtain ⟨f, hf⟩ := ih (i + 1) (by omega)
      have li := l2 i (by omega)
      refine ⟨f + 1, ?_⟩
      rw [wp_Mo_parts_b208, nI_add]
      refine R_byteL hR rfl (by omega) (fun b hb b1 b2 => ?_)
      have e1 : b = tx_c B t (j + i) := b1 (by omega)
      refine R_isDigit rfl hb (fun _ => ?_) (fun z => absurd (by rw [e1]; exact li) z)
      rw [if_neg (by decide)]
      unfold wp_Mo_parts_b244
      by_cases c8 : 4 ≤ i
      · rw [if_pos (show 4 ≤ nI i from nI_le (a := 4) c8 (by omega)), nI_1]
        rw [Nat.min_eq_right c8]
        rw [Nat.min_eq_right (show 4 ≤ i + 1 by omega)] at hf
        exact hf
      · rw [if_neg (show ¬ 4 ≤ nI i from nI_ge (b := 4) (by omega) (by decide))]
        refine R_byteL hR rfl (by omega) (fun b' hb' b1' b2' => ?_)
        have e2 : b' = tx_c B t (j + i) := b1' (by omega)
        rw [Nat.min_eq_left (show i + 1 ≤ 4 by omega)] at hf
        rw [Nat.min_eq_left (show i ≤ 4 by omega), nI_1, show (10 : Int32) * nI (tx_dv (fun i => tx_c B t (j + i)) i) = nI (10 * tx_dv (fun i => tx_c B t (j + i)) i) from pk_mul 10 _, nI_add, e2, show nI (10 * tx_dv (fun i => tx_c B t (j + i)) i + tx_c B t (j + i)) - 48 = nI (10 * tx_dv (fun i => tx_c B t (j + i)) i + tx_c B t (j + i) - 48) from pk_sub (b := 48) (by have := li.1; omega), show 10 * tx_dv (fun i => tx_c B t (j + i)) i + tx_c B t (j + i) - 48 = 10 * tx_dv (fun i => tx_c B t (j + i)) i + (tx_c B t (j + i) - 48) by have := li.1; omega]
        exact hf
  exact go n 0 (by omega)
end PARTS
