/-- a row laid into another one -/
def lyM (kf kt bf bt : Nat) (ρ : sx_M) : Nat → sx_M
  | 0 => ρ
  | k + 1 => sx_u (lyM kf kt bf bt ρ k) kt 0 0 (bt + k) (ρ kf 0 0 (bf + k))
theorem lyM_at (kf kt bf bt : Nat) (ρ : sx_M) : ∀ k, (∀ q n p, ¬ (q = kt ∧ n = 0 ∧ p = 0) → lyM kf kt bf bt ρ k q n p = ρ q n p) ∧ (∀ j, j < k → lyM kf kt bf bt ρ k kt 0 0 (bt + j) = ρ kf 0 0 (bf + j)) ∧ ∀ j, ¬ (bt ≤ j ∧ j < bt + k) → lyM kf kt bf bt ρ k kt 0 0 j = ρ kt 0 0 j
  | 0 => ⟨fun _ _ _ _ => rfl, fun j h => absurd h (Nat.not_lt_zero j), fun _ _ => rfl⟩
  | k + 1 => by
    obtain ⟨a, b, c⟩ := lyM_at kf kt bf bt ρ k
    refine ⟨fun q n p h => ?_, fun j hj => ?_, fun j hj => ?_⟩
    · show sx_u (lyM kf kt bf bt ρ k) kt 0 0 (bt + k) (ρ kf 0 0 (bf + k)) q n p = _
      rw [sx_u_row _ _ _ _ _ _ h]; exact a q n p h
    · show sx_u (lyM kf kt bf bt ρ k) kt 0 0 (bt + k) (ρ kf 0 0 (bf + k)) kt 0 0 (bt + j) = _
      rw [sx_u_at]
      by_cases e : j = k
      · subst e; rw [if_pos ⟨rfl, rfl, rfl, rfl⟩]
      · rw [if_neg (by omega)]; exact b j (by omega)
    · show sx_u (lyM kf kt bf bt ρ k) kt 0 0 (bt + k) (ρ kf 0 0 (bf + k)) kt 0 0 j = _
      rw [sx_u_at, if_neg (by omega)]; exact c j (by omega)
theorem ly_row_now_l {ρ : sx_M} {θ : sx_L} {bf bt N : Nat} (hN : N ≤ 643) (hf : bf + 643 ≤ 643) (ht : bt + 643 ≤ 643) {Q : sx_M → sx_L → Prop} (h : Q (lyM 68 67 bf bt ρ N) θ) : ∀ (c d : Nat), d + c = N → ∃ f, wp_Mo_lays2_row_now_b17 Q f (nI bf) (nI bt) (nI N) (nI d) (lyM 68 67 bf bt ρ d) θ
  | 0, d, hd => by
    have : d = N := by omega
    subst this
    exact ⟨1, by rw [wp_Mo_lays2_row_now_b17, if_pos (nI_le (Nat.le_refl _) (by omega))]; exact h⟩
  | c + 1, d, hd => by
    obtain ⟨f, hh⟩ := ly_row_now_l hN hf ht h c (d + 1) (by omega)
    refine ⟨f + 1, ?_⟩
    rw [wp_Mo_lays2_row_now_b17, if_neg (nI_ge (by omega) (by omega)), nI_add, nI_add, nI_clamp (n := bf + d) (by omega), nI_clamp (n := bt + d) (by omega), nI_1]
    refine ⟨vp_in_nI (by omega) (by decide), vp_in_nI (by omega) (by decide), fun _ q => ?_⟩
    rw [(lyM_at 68 67 bf bt ρ d).1 68 0 0 (by decide)] at q
    subst q
    exact hh
theorem R_row_now {ρ : sx_M} {θ : sx_L} {bf bt m : Nat} {x y : Int32} (hx : x = nI bf) (hy : y = nI bt) (hm : m ≤ 200) (h7 : ρ 68 0 0 (bf + 7) = nI m) (hf : bf + 643 ≤ 643) (ht : bt + 643 ≤ 643) :
    ∃ ρ2, (∀ q n p, ¬ (q = 67 ∧ n = 0 ∧ p = 0) → ρ2 q n p = ρ q n p) ∧ (∀ j, j < 243 + 2 * m → ρ2 67 0 0 (bt + j) = ρ 68 0 0 (bf + j)) ∧ (∀ j, ¬ (bt ≤ j ∧ j < bt + 643) → ρ2 67 0 0 j = ρ 67 0 0 j) ∧ ∀ Q : sx_M → sx_L → Prop, Q ρ2 θ → wp_Mo_lays2_row_now x y ρ θ Q := by
  subst hx hy
  obtain ⟨a, b, c⟩ := lyM_at 68 67 bf bt ρ (243 + 2 * m)
  refine ⟨_, a, b, fun j hj => c j (by omega), fun Q hQ => ?_⟩
  unfold wp_Mo_lays2_row_now
  have e1 : nI bf + 7 = nI (bf + 7) := nI_add bf 7
  have e2 : (243 : Int32) + (2 * nI m) = nI (243 + 2 * m) := by show nI 243 + nI 2 * nI m = _; rw [pk_mul, nI_add]
  rw [e1, nI_clamp (n := bf + 7) (by omega), h7, e2]
  exact ⟨vp_in_nI (by omega) (by decide), ly_row_now_l (by omega) hf ht hQ (243 + 2 * m) 0 (by omega)⟩
theorem ly_now_row_l {ρ : sx_M} {θ : sx_L} {bf bt N : Nat} (hN : N ≤ 643) (hf : bf + 643 ≤ 643) (ht : bt + 643 ≤ 643) {Q : sx_M → sx_L → Prop} (h : Q (lyM 67 68 bf bt ρ N) θ) : ∀ (c d : Nat), d + c = N → ∃ f, wp_Mo_lays2_now_row_b17 Q f (nI bf) (nI bt) (nI N) (nI d) (lyM 67 68 bf bt ρ d) θ
  | 0, d, hd => by
    have : d = N := by omega
    subst this
    exact ⟨1, by rw [wp_Mo_lays2_now_row_b17, if_pos (nI_le (Nat.le_refl _) (by omega))]; exact h⟩
  | c + 1, d, hd => by
    obtain ⟨f, hh⟩ := ly_now_row_l hN hf ht h c (d + 1) (by omega)
    refine ⟨f + 1, ?_⟩
    rw [wp_Mo_lays2_now_row_b17, if_neg (nI_ge (by omega) (by omega)), nI_add, nI_add, nI_clamp (n := bf + d) (by omega), nI_clamp (n := bt + d) (by omega), nI_1]
    refine ⟨vp_in_nI (by omega) (by decide), vp_in_nI (by omega) (by decide), fun _ q => ?_⟩
    rw [(lyM_at 67 68 bf bt ρ d).1 67 0 0 (by decide)] at q
    subst q
    exact hh
theorem R_now_row {ρ : sx_M} {θ : sx_L} {bf bt m : Nat} {x y : Int32} (hx : x = nI bf) (hy : y = nI bt) (hm : m ≤ 200) (h7 : ρ 67 0 0 (bf + 7) = nI m) (hf : bf + 643 ≤ 643) (ht : bt + 643 ≤ 643) :
    ∃ ρ2, (∀ q n p, ¬ (q = 68 ∧ n = 0 ∧ p = 0) → ρ2 q n p = ρ q n p) ∧ (∀ j, j < 243 + 2 * m → ρ2 68 0 0 (bt + j) = ρ 67 0 0 (bf + j)) ∧ (∀ j, ¬ (bt ≤ j ∧ j < bt + 643) → ρ2 68 0 0 j = ρ 68 0 0 j) ∧ ∀ Q : sx_M → sx_L → Prop, Q ρ2 θ → wp_Mo_lays2_now_row x y ρ θ Q := by
  subst hx hy
  obtain ⟨a, b, c⟩ := lyM_at 67 68 bf bt ρ (243 + 2 * m)
  refine ⟨_, a, b, fun j hj => c j (by omega), fun Q hQ => ?_⟩
  unfold wp_Mo_lays2_now_row
  have e1 : nI bf + 7 = nI (bf + 7) := nI_add bf 7
  have e2 : (243 : Int32) + (2 * nI m) = nI (243 + 2 * m) := by show nI 243 + nI 2 * nI m = _; rw [pk_mul, nI_add]
  rw [e1, nI_clamp (n := bf + 7) (by omega), h7, e2]
  exact ⟨vp_in_nI (by omega) (by decide), ly_now_row_l (by omega) hf ht hQ (243 + 2 * m) 0 (by omega)⟩
theorem ly_now_earlier_l {ρ : sx_M} {θ : sx_L} {bf bt N : Nat} (hN : N ≤ 643) (hf : bf + 643 ≤ 643) (ht : bt + 643 ≤ 12860) {Q : sx_M → sx_L → Prop} (h : Q (lyM 67 71 bf bt ρ N) θ) : ∀ (c d : Nat), d + c = N → ∃ f, wp_Mo_lays2_now_earlier_b17 Q f (nI bf) (nI bt) (nI N) (nI d) (lyM 67 71 bf bt ρ d) θ
  | 0, d, hd => by
    have : d = N := by omega
    subst this
    exact ⟨1, by rw [wp_Mo_lays2_now_earlier_b17, if_pos (nI_le (Nat.le_refl _) (by omega))]; exact h⟩
  | c + 1, d, hd => by
    obtain ⟨f, hh⟩ := ly_now_earlier_l hN hf ht h c (d + 1) (by omega)
    refine ⟨f + 1, ?_⟩
    rw [wp_Mo_lays2_now_earlier_b17, if_neg (nI_ge (by omega) (by omega)), nI_add, nI_add, nI_clamp (n := bf + d) (by omega), nI_clamp (n := bt + d) (by omega), nI_1]
    refine ⟨vp_in_nI (by omega) (by decide), vp_in_nI (by omega) (by decide), fun _ q => ?_⟩
    rw [(lyM_at 67 71 bf bt ρ d).1 67 0 0 (by decide)] at q
    subst q
    exact hh
theorem R_now_earlier {ρ : sx_M} {θ : sx_L} {bf bt m : Nat} {x y : Int32} (hx : x = nI bf) (hy : y = nI bt) (hm : m ≤ 200) (h7 : ρ 67 0 0 (bf + 7) = nI m) (hf : bf + 643 ≤ 643) (ht : bt + 643 ≤ 12860) :
    ∃ ρ2, (∀ q n p, ¬ (q = 71 ∧ n = 0 ∧ p = 0) → ρ2 q n p = ρ q n p) ∧ (∀ j, j < 243 + 2 * m → ρ2 71 0 0 (bt + j) = ρ 67 0 0 (bf + j)) ∧ (∀ j, ¬ (bt ≤ j ∧ j < bt + 643) → ρ2 71 0 0 j = ρ 71 0 0 j) ∧ ∀ Q : sx_M → sx_L → Prop, Q ρ2 θ → wp_Mo_lays2_now_earlier x y ρ θ Q := by
  subst hx hy
  obtain ⟨a, b, c⟩ := lyM_at 67 71 bf bt ρ (243 + 2 * m)
  refine ⟨_, a, b, fun j hj => c j (by omega), fun Q hQ => ?_⟩
  unfold wp_Mo_lays2_now_earlier
  have e1 : nI bf + 7 = nI (bf + 7) := nI_add bf 7
  have e2 : (243 : Int32) + (2 * nI m) = nI (243 + 2 * m) := by show nI 243 + nI 2 * nI m = _; rw [pk_mul, nI_add]
  rw [e1, nI_clamp (n := bf + 7) (by omega), h7, e2]
  exact ⟨vp_in_nI (by omega) (by decide), ly_now_earlier_l (by omega) hf ht hQ (243 + 2 * m) 0 (by omega)⟩
theorem ly_earlier_now_l {ρ : sx_M} {θ : sx_L} {bf bt N : Nat} (hN : N ≤ 643) (hf : bf + 643 ≤ 12860) (ht : bt + 643 ≤ 643) {Q : sx_M → sx_L → Prop} (h : Q (lyM 71 67 bf bt ρ N) θ) : ∀ (c d : Nat), d + c = N → ∃ f, wp_Mo_lays2_earlier_now_b17 Q f (nI bf) (nI bt) (nI N) (nI d) (lyM 71 67 bf bt ρ d) θ
  | 0, d, hd => by
    have : d = N := by omega
    subst this
    exact ⟨1, by rw [wp_Mo_lays2_earlier_now_b17, if_pos (nI_le (Nat.le_refl _) (by omega))]; exact h⟩
  | c + 1, d, hd => by
    obtain ⟨f, hh⟩ := ly_earlier_now_l hN hf ht h c (d + 1) (by omega)
    refine ⟨f + 1, ?_⟩
    rw [wp_Mo_lays2_earlier_now_b17, if_neg (nI_ge (by omega) (by omega)), nI_add, nI_add, nI_clamp (n := bf + d) (by omega), nI_clamp (n := bt + d) (by omega), nI_1]
    refine ⟨vp_in_nI (by omega) (by decide), vp_in_nI (by omega) (by decide), fun _ q => ?_⟩
    rw [(lyM_at 71 67 bf bt ρ d).1 71 0 0 (by decide)] at q
    subst q
    exact hh
theorem R_earlier_now {ρ : sx_M} {θ : sx_L} {bf bt m : Nat} {x y : Int32} (hx : x = nI bf) (hy : y = nI bt) (hm : m ≤ 200) (h7 : ρ 71 0 0 (bf + 7) = nI m) (hf : bf + 643 ≤ 12860) (ht : bt + 643 ≤ 643) :
    ∃ ρ2, (∀ q n p, ¬ (q = 67 ∧ n = 0 ∧ p = 0) → ρ2 q n p = ρ q n p) ∧ (∀ j, j < 243 + 2 * m → ρ2 67 0 0 (bt + j) = ρ 71 0 0 (bf + j)) ∧ (∀ j, ¬ (bt ≤ j ∧ j < bt + 643) → ρ2 67 0 0 j = ρ 67 0 0 j) ∧ ∀ Q : sx_M → sx_L → Prop, Q ρ2 θ → wp_Mo_lays2_earlier_now x y ρ θ Q := by
  subst hx hy
  obtain ⟨a, b, c⟩ := lyM_at 71 67 bf bt ρ (243 + 2 * m)
  refine ⟨_, a, b, fun j hj => c j (by omega), fun Q hQ => ?_⟩
  unfold wp_Mo_lays2_earlier_now
  have e1 : nI bf + 7 = nI (bf + 7) := nI_add bf 7
  have e2 : (243 : Int32) + (2 * nI m) = nI (243 + 2 * m) := by show nI 243 + nI 2 * nI m = _; rw [pk_mul, nI_add]
  rw [e1, nI_clamp (n := bf + 7) (by omega), h7, e2]
  exact ⟨vp_in_nI (by omega) (by decide), ly_earlier_now_l (by omega) hf ht hQ (243 + 2 * m) 0 (by omega)⟩
theorem ly_now_held_l {ρ : sx_M} {θ : sx_L} {bf bt N : Nat} (hN : N ≤ 643) (hf : bf + 643 ≤ 643) (ht : bt + 643 ≤ 1929) {Q : sx_M → sx_L → Prop} (h : Q (lyM 67 72 bf bt ρ N) θ) : ∀ (c d : Nat), d + c = N → ∃ f, wp_Mo_lays2_now_held_b17 Q f (nI bf) (nI bt) (nI N) (nI d) (lyM 67 72 bf bt ρ d) θ
  | 0, d, hd => by
    have : d = N := by omega
    subst this
    exact ⟨1, by rw [wp_Mo_lays2_now_held_b17, if_pos (nI_le (Nat.le_refl _) (by omega))]; exact h⟩
  | c + 1, d, hd => by
    obtain ⟨f, hh⟩ := ly_now_held_l hN hf ht h c (d + 1) (by omega)
    refine ⟨f + 1, ?_⟩
    rw [wp_Mo_lays2_now_held_b17, if_neg (nI_ge (by omega) (by omega)), nI_add, nI_add, nI_clamp (n := bf + d) (by omega), nI_clamp (n := bt + d) (by omega), nI_1]
    refine ⟨vp_in_nI (by omega) (by decide), vp_in_nI (by omega) (by decide), fun _ q => ?_⟩
    rw [(lyM_at 67 72 bf bt ρ d).1 67 0 0 (by decide)] at q
    subst q
    exact hh
theorem R_now_held {ρ : sx_M} {θ : sx_L} {bf bt m : Nat} {x y : Int32} (hx : x = nI bf) (hy : y = nI bt) (hm : m ≤ 200) (h7 : ρ 67 0 0 (bf + 7) = nI m) (hf : bf + 643 ≤ 643) (ht : bt + 643 ≤ 1929) :
    ∃ ρ2, (∀ q n p, ¬ (q = 72 ∧ n = 0 ∧ p = 0) → ρ2 q n p = ρ q n p) ∧ (∀ j, j < 243 + 2 * m → ρ2 72 0 0 (bt + j) = ρ 67 0 0 (bf + j)) ∧ (∀ j, ¬ (bt ≤ j ∧ j < bt + 643) → ρ2 72 0 0 j = ρ 72 0 0 j) ∧ ∀ Q : sx_M → sx_L → Prop, Q ρ2 θ → wp_Mo_lays2_now_held x y ρ θ Q := by
  subst hx hy
  obtain ⟨a, b, c⟩ := lyM_at 67 72 bf bt ρ (243 + 2 * m)
  refine ⟨_, a, b, fun j hj => c j (by omega), fun Q hQ => ?_⟩
  unfold wp_Mo_lays2_now_held
  have e1 : nI bf + 7 = nI (bf + 7) := nI_add bf 7
  have e2 : (243 : Int32) + (2 * nI m) = nI (243 + 2 * m) := by show nI 243 + nI 2 * nI m = _; rw [pk_mul, nI_add]
  rw [e1, nI_clamp (n := bf + 7) (by omega), h7, e2]
  exact ⟨vp_in_nI (by omega) (by decide), ly_now_held_l (by omega) hf ht hQ (243 + 2 * m) 0 (by omega)⟩
theorem ly_held_now_l {ρ : sx_M} {θ : sx_L} {bf bt N : Nat} (hN : N ≤ 643) (hf : bf + 643 ≤ 1929) (ht : bt + 643 ≤ 643) {Q : sx_M → sx_L → Prop} (h : Q (lyM 72 67 bf bt ρ N) θ) : ∀ (c d : Nat), d + c = N → ∃ f, wp_Mo_lays2_held_now_b17 Q f (nI bf) (nI bt) (nI N) (nI d) (lyM 72 67 bf bt ρ d) θ
  | 0, d, hd => by
    have : d = N := by omega
    subst this
    exact ⟨1, by rw [wp_Mo_lays2_held_now_b17, if_pos (nI_le (Nat.le_refl _) (by omega))]; exact h⟩
  | c + 1, d, hd => by
    obtain ⟨f, hh⟩ := ly_held_now_l hN hf ht h c (d + 1) (by omega)
    refine ⟨f + 1, ?_⟩
    rw [wp_Mo_lays2_held_now_b17, if_neg (nI_ge (by omega) (by omega)), nI_add, nI_add, nI_clamp (n := bf + d) (by omega), nI_clamp (n := bt + d) (by omega), nI_1]
    refine ⟨vp_in_nI (by omega) (by decide), vp_in_nI (by omega) (by decide), fun _ q => ?_⟩
    rw [(lyM_at 72 67 bf bt ρ d).1 72 0 0 (by decide)] at q
    subst q
    exact hh
theorem R_held_now {ρ : sx_M} {θ : sx_L} {bf bt m : Nat} {x y : Int32} (hx : x = nI bf) (hy : y = nI bt) (hm : m ≤ 200) (h7 : ρ 72 0 0 (bf + 7) = nI m) (hf : bf + 643 ≤ 1929) (ht : bt + 643 ≤ 643) :
    ∃ ρ2, (∀ q n p, ¬ (q = 67 ∧ n = 0 ∧ p = 0) → ρ2 q n p = ρ q n p) ∧ (∀ j, j < 243 + 2 * m → ρ2 67 0 0 (bt + j) = ρ 72 0 0 (bf + j)) ∧ (∀ j, ¬ (bt ≤ j ∧ j < bt + 643) → ρ2 67 0 0 j = ρ 67 0 0 j) ∧ ∀ Q : sx_M → sx_L → Prop, Q ρ2 θ → wp_Mo_lays2_held_now x y ρ θ Q := by
  subst hx hy
  obtain ⟨a, b, c⟩ := lyM_at 72 67 bf bt ρ (243 + 2 * m)
  refine ⟨_, a, b, fun j hj => c j (by omega), fun Q hQ => ?_⟩
  unfold wp_Mo_lays2_held_now
  have e1 : nI bf + 7 = nI (bf + 7) := nI_add bf 7
  have e2 : (243 : Int32) + (2 * nI m) = nI (243 + 2 * m) := by show nI 243 + nI 2 * nI m = _; rw [pk_mul, nI_add]
  rw [e1, nI_clamp (n := bf + 7) (by omega), h7, e2]
  exact ⟨vp_in_nI (by omega) (by decide), ly_held_now_l (by omega) hf ht hQ (243 + 2 * m) 0 (by omega)⟩
section LAYS
variable {P L v m : Nat} {σ σ2 ρ ρ2 : sx_M} {n n2 k b k2 b2 : Nat}
/-- the row may lie elsewhere -/
theorem pn_N.cR (h : pn_N P L m σ n ρ k b) (hj : ∀ j, j < 243 + 2 * m → ρ2 k2 0 0 (b2 + j) = ρ k 0 0 (b + j)) : pn_N P L m σ n ρ2 k2 b2 := by
  obtain ⟨⟨hP, hL⟩, a1, a2, a3, a4, a5, a6, a7, a8, a9, a10, a11, a12⟩ := h
  have g : ∀ j, j < 243 + 2 * m → ∀ x, x = b2 + j → ρ2 k2 0 0 x = ρ k 0 0 (b + j) := fun j h x e => by rw [e]; exact hj j h
  refine ⟨⟨hP, hL⟩, fun f hf => ?_, ⟨a2.1, ?_, a2.2.2⟩, ⟨a3.1, ?_⟩, ⟨a4.1, ?_⟩, fun l hl => ?_, fun p hp w hw => ?_, fun p j hp hj2 => ?_, fun p j hp hj2 q => ?_, fun i hi => ?_, a10, a11, a12⟩
  · rw [g f (by omega) _ rfl]; exact a1 f hf
  · rw [g 7 (by omega) _ rfl]; exact a2.2.1
  · rw [g 8 (by omega) _ rfl]; exact a3.2
  · rw [g 9 (by omega) _ rfl]; exact a4.2
  · rw [g (10 + l) (by omega) _ (by omega), show b + (10 + l) = b + 10 + l by omega]; exact a5 l hl
  · rw [g (26 + 10 * p + w) (by omega) _ (by omega), show b + (26 + 10 * p + w) = b + 26 + 10 * p + w by omega]; exact a6 p hp w hw
  · rw [g (96 + 7 * p + j) (by omega) _ (by omega), g (145 + 7 * p + j) (by omega) _ (by omega), g (194 + 7 * p + j) (by omega) _ (by omega), show b + (96 + 7 * p + j) = b + 96 + 7 * p + j by omega, show b + (145 + 7 * p + j) = b + 145 + 7 * p + j by omega, show b + (194 + 7 * p + j) = b + 194 + 7 * p + j by omega]; exact a7 p j hp hj2
  · rw [g (145 + 7 * p + j) (by omega) _ (by omega), show b + (145 + 7 * p + j) = b + 145 + 7 * p + j by omega]; exact a8 p j hp hj2 q
  · rw [g (243 + 2 * i) (by omega) _ (by omega), g (243 + 2 * i + 1) (by omega) _ (by omega), show b + (243 + 2 * i) = b + 243 + 2 * i by omega, show b + (243 + 2 * i + 1) = b + 243 + 2 * i + 1 by omega]; exact a9 i hi
/-- the net may be another one -/
theorem pn_N.cC (h : pn_N P L m σ n ρ k b) (h16 : ∀ f, 1 ≤ f → f ≤ 7 → σ2 16 n2 0 f = σ 16 n 0 f) (h18 : ∀ q l, (q = 18 ∨ q = 19) → l < 16 → σ2 q n2 0 l = σ q n 0 l) (h27 : ∀ p j, p < P → j ≤ 10 → σ2 27 n2 p j = σ 27 n p j) (h28 : ∀ q p j, (28 ≤ q ∧ q ≤ 30) → p < P → j < 7 → σ2 q n2 p j = σ q n p j) (h20 : σ2 20 n2 0 0 = nI m) (h21 : ∀ q i, (21 ≤ q ∧ q ≤ 26) → i < m → σ2 q n2 0 i = σ q n 0 i) : pn_N P L m σ2 n2 ρ k b := by
  obtain ⟨⟨hP, hL⟩, a1, a2, a3, a4, a5, a6, a7, a8, a9, a10, a11, a12⟩ := h
  refine ⟨⟨hP, hL⟩, fun f hf => ?_, ⟨a2.1, a2.2.1, h20⟩, ⟨fun l hl => ?_, ?_⟩, ⟨fun p hp => ?_, ?_⟩, fun l hl => ?_, fun p hp w hw => ?_, fun p j hp hj2 => ?_, a8, fun i hi => ?_, fun p hp => ?_, fun p j hp hj => ?_, fun q => ?_⟩
  · rw [h16 (f + 1) (by omega) (by omega)]; exact a1 f hf
  · rw [h18 18 l (by simp) (by omega)]; exact a3.1 l hl
  · rw [pn_b_congr (fun l hl => h18 18 l (by simp) (by omega))]; exact a3.2
  · rw [h27 p 0 hp (by omega)]; exact a4.1 p hp
  · rw [pn_b_congr (fun p hp => h27 p 0 hp (by omega))]; exact a4.2
  · rw [h18 19 l (by simp) (by omega)]; exact a5 l hl
  · rw [h27 p (w + 1) hp (by omega)]; exact a6 p hp w hw
  · rw [h28 28 p j (by decide) hp (by omega), h28 29 p j (by decide) hp (by omega), h28 30 p j (by decide) hp (by omega)]; exact a7 p j hp hj2
  · rw [h21 21 i (by decide) hi, h21 22 i (by decide) hi, h21 23 i (by decide) hi, h21 24 i (by decide) hi, h21 25 i (by decide) hi, h21 26 i (by decide) hi]; exact a9 i hi
  · rw [h27 p 1 hp (by omega), h27 p 2 hp (by omega), h27 p 3 hp (by omega), h27 p 4 hp (by omega), h27 p 7 hp (by omega)]; exact a10 p hp
  · rw [h28 28 p j (by decide) hp (by omega), h28 29 p j (by decide) hp (by omega)]; exact a11 p j hp hj
  · rw [h27 0 3 q (by omega)]; exact a12 q
theorem pn_of_n {p q : Nat} (hP : pn_P P L v σ ρ) (hp : p < P) (hq : q < P) (hf : ∀ k n p, 8 ≤ k → k < 16 → σ2 k n p = σ k n p) (h18 : ∀ q l, (q = 18 ∨ q = 19) → l < 16 → σ2 q n2 0 l = σ q n 0 l) (h27 : ∀ p j, p < P → j ≤ 10 → σ2 27 n2 p j = σ 27 n p j) (h28 : ∀ p j, p < P → j < 7 → σ2 28 n2 p j = σ 28 n p j) : pn_of σ2 n2 p q = pn_of σ n p q := by
  have h7 := hP.1.1
  have h16 := hP.1.2.1
  unfold pn_of pn_nb pn_st
  rw [h28 p q hp (by omega), h27 p 0 hp (by omega), h27 q 0 hq (by omega), hf 13 0 p (by decide) (by decide), hf 8 0 0 (by decide) (by decide)]
  rcases (hP.2.2.2.2.2.1 p q hp hq).2 with c | ⟨l, hl, el, -⟩
  · rw [c]
    simp
  · rw [el, nI_clamp (n := l) (by omega), h18 18 l (by simp) (by omega), h18 19 l (by simp) (by omega)]
theorem pn_bo_n {as : Int32} {p : Nat} (h : ∀ q, q < P → pn_of σ2 n2 p q = pn_of σ n p q) : ∀ k, k ≤ P → pn_bo σ2 n2 p as k = pn_bo σ n p as k
  | 0, _ => rfl
  | k + 1, hk => by unfold pn_bo; rw [pn_bo_n h k (by omega), h k (by omega)]
/-- all have chosen there, too -/
theorem pn_Z.cC (hP : pn_P P L v σ ρ) (hN : pn_N P L m σ n ρ k b) (hZ : pn_Z P σ n (fun _ => False)) (hf : ∀ k n p, 8 ≤ k → k < 16 → σ2 k n p = σ k n p) (h18 : ∀ q l, (q = 18 ∨ q = 19) → l < 16 → σ2 q n2 0 l = σ q n 0 l) (h27 : ∀ p j, p < P → j ≤ 10 → σ2 27 n2 p j = σ 27 n p j) (h28 : ∀ p j, p < P → j < 7 → σ2 28 n2 p j = σ 28 n p j) : pn_Z P σ2 n2 (fun _ => False) := by
  intro p p0 pP _ pon pr
  have h7 := hP.1.1
  rw [h27 p 0 pP (by omega)] at pon
  rw [h27 p 5 pP (by omega)] at pr
  have hz := hZ p p0 pP (fun z => z) pon pr
  have of : ∀ q, q < P → pn_of σ2 n2 p q = pn_of σ n p q := fun q hq => pn_of_n hP pP hq hf h18 h27 h28
  have bo := pn_bo_n (as := -2) of P (Nat.le_refl _)
  have po := (hN.2.2.2.2.2.2.2.2.2.2.1 p pP).2.2.1
  have bq : pn_o P (pn_bo σ n p (-2) P).1 := by
    have : ∀ k, k ≤ P → pn_o P (pn_bo σ n p (-2) k).1 := by
      intro k
      induction k with
      | zero => intro _; exact Or.inl rfl
      | succ k ih =>
        intro hk
        by_cases c : (pn_bo σ n p (-2) k).2 ≤ (if nI k = -2 then 1000000 else pn_of σ n p k)
        · unfold pn_bo; rw [if_pos c]; exact ih (by omega)
        · unfold pn_bo; rw [if_neg c]; exact Or.inr ⟨k, by omega, rfl⟩
    exact this P (Nat.le_refl _)
  have ofo : ∀ x, pn_o P x → ¬ x = -2 → pn_of σ2 n2 p x.toNatClampNeg = pn_of σ n p x.toNatClampNeg := by
    intro x hx hn
    obtain ⟨q, hq, rfl⟩ := hx.resolve_left hn
    rw [nI_clamp (n := q) (by omega)]
    exact of q hq
  have kp : pn_kp σ2 n2 p (pn_bo σ n p (-2) P).1 = pn_kp σ n p (pn_bo σ n p (-2) P).1 := by
    unfold pn_kp
    rw [h27 p 3 pP (by omega), hf 14 0 0 (by decide) (by decide)]
    by_cases c1 : σ 27 n p 3 = -2
    · rw [if_pos c1, if_pos c1]
    · rw [if_neg c1, if_neg c1]
      by_cases c2 : (pn_bo σ n p (-2) P).1 = -2
      · rw [if_pos c2, if_pos c2]
      · rw [if_neg c2, if_neg c2, ofo _ po c1, ofo _ bq c2]
  have cc : pn_c σ2 n2 p P = pn_c σ n p P := by unfold pn_c; rw [bo, kp, h27 p 3 pP (by omega)]
  have cq : pn_o P (pn_c σ n p P) := by unfold pn_c; split; exact bq; exact po
  unfold pn_zz at hz ⊢
  rw [cc, h27 p 3 pP (by omega), h27 p 2 pP (by omega), h27 p 4 pP (by omega), hf 14 0 0 (by decide) (by decide)]
  refine ⟨hz.1, ?_⟩
  rcases hz.2 with h | ⟨h1, h2⟩
  · exact Or.inl h
  · rw [ofo _ cq h1]; exact Or.inr ⟨h1, h2⟩
end LAYS
