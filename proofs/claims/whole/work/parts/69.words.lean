/-- the number of n letters -/
def tx_v (g : Nat → Nat) : Nat → Nat
  | 0 => 0
  | n + 1 => 27 * tx_v g n + (g n - 96)
theorem tx_v_c {g h : Nat → Nat} : ∀ n, (∀ i, i < n → g i = h i) → tx_v g n = tx_v h n
  | 0, _ => rfl
  | n + 1, hh => by
    unfold tx_v
    rw [tx_v_c n (fun i hi => hh i (by omega)), hh n (by omega)]
theorem tx_v_inj {g h : Nat → Nat} : ∀ n m, (∀ i, i < n → tx_l (g i)) → (∀ i, i < m → tx_l (h i)) → tx_v g n = tx_v h m → n = m ∧ ∀ i, i < n → g i = h i
  | 0, 0, _, _, _ => ⟨rfl, fun i hi => absurd hi (Nat.not_lt_zero i)⟩
  | 0, m + 1, _, h2, e => by
    have := h2 m (by omega)
    unfold tx_v at e
    obtain ⟨a, b⟩ := this
    omega
  | n + 1, 0, h1, _, e => by
    have := h1 n (by omega)
    unfold tx_v at e
    obtain ⟨a, b⟩ := this
    omega
  | n + 1, m + 1, h1, h2, e => by
    obtain ⟨a1, b1⟩ := h1 n (by omega)
    obtain ⟨a2, b2⟩ := h2 m (by omega)
    have e' : 27 * tx_v g n + (g n - 96) = 27 * tx_v h m + (h m - 96) := e
    have e1 : tx_v g n = tx_v h m := by omega
    have e2 : g n = h m := by omega
    obtain ⟨c1, c2⟩ := tx_v_inj n m (fun i hi => h1 i (by omega)) (fun i hi => h2 i (by omega)) e1
    refine ⟨by omega, fun i hi => ?_⟩
    by_cases z : i = n
    · rw [z, e2, c1]
    · exact c2 i (by omega)
theorem tx_v_lt {g : Nat → Nat} : ∀ n, (∀ i, i < n → g i ≤ 122) → tx_v g n < 27 ^ n
  | 0, _ => by show 0 < 1; decide
  | n + 1, h => by
    have := tx_v_lt n (fun i hi => h i (by omega))
    have h2 := h n (by omega)
    show 27 * tx_v g n + (g n - 96) < 27 ^ (n + 1)
    rw [Nat.pow_succ]
    omega
theorem tx_v_ge {g : Nat → Nat} : ∀ n, (∀ i, i ≤ n → tx_l (g i)) → 27 ^ n ≤ tx_v g (n + 1)
  | 0, h => by
    have := (h 0 (by omega)).1
    show 1 ≤ 27 * 0 + (g 0 - 96)
    omega
  | n + 1, h => by
    have := tx_v_ge n (fun i hi => h i (by omega))
    show 27 ^ (n + 1) ≤ 27 * tx_v g (n + 1) + (g (n + 1) - 96)
    rw [Nat.pow_succ]
    omega
/-- the words: their letters, how many, their numbers -/
def tx_wc (w i : Nat) : Nat := ((kx_byt.getD 5 []).getD (6 * w + i) 0).toBitVec.toNat
def tx_wl (w : Nat) : Nat := [4, 4, 5, 5, 6, 5, 4, 4, 5, 5, 4, 4, 4, 5].getD w 0
def tx_wk (w : Nat) : Nat := [326396, 243146, 3379448, 11088176, 79495460, 847604, 361373, 358472, 3547106, 7742498, 377761, 148755, 168850, 1903978].getD w 0
theorem tx_w_ok : ∀ w, w < 14 → (∀ i, i < 6 → (i < tx_wl w → tx_l (tx_wc w i)) ∧ (tx_wl w ≤ i → tx_wc w i = 32)) ∧ tx_v (tx_wc w) (tx_wl w) = tx_wk w ∧ tx_wl w ≤ 6 ∧ pn_ky.getD w 0 = lN (tx_wk w) := by decide +kernel
theorem tx_w_ch : ∀ w, w < 14 → ∀ i, i < 6 → sx_tc 5 (nI (w * 6 + i)) = nI (tx_wc w i) := by decide +kernel
theorem tx_wk_lt : ∀ w, w < 14 → tx_wk w < 27 ^ 6 := by decide +kernel
theorem tx_wk_ne : ∀ a, a < 14 → ∀ b, b < 14 → a ≠ b → tx_wk a ≠ tx_wk b := by decide +kernel
/-- the word of that number, from w on; 14: none -/
def tx_fw (v : Nat) : Nat → Nat → Nat
  | 0, _ => 14
  | k + 1, w => if v = tx_wk w then w else tx_fw v k (w + 1)
/-- and as the reference finds it -/
def tx_lw (v : Nat) : Nat → Nat → Nat → Nat
  | 0, _, a => a
  | k + 1, w, a => tx_lw v k (w + 1) (if v = tx_wk w then 20 + w else a)
theorem tx_fw_none {v : Nat} : ∀ k w, (∀ i, w ≤ i → i < w + k → v ≠ tx_wk i) → tx_fw v k w = 14
  | 0, _, _ => rfl
  | k + 1, w, h => by
    unfold tx_fw
    rw [if_neg (h w (Nat.le_refl _) (by omega))]
    exact tx_fw_none k (w + 1) (fun i h1 h2 => h i (by omega) (by omega))
theorem tx_lw_none {v : Nat} : ∀ k w a, (∀ i, w ≤ i → i < w + k → v ≠ tx_wk i) → tx_lw v k w a = a
  | 0, _, _, _ => rfl
  | k + 1, w, a, h => by
    unfold tx_lw
    rw [if_neg (h w (Nat.le_refl _) (by omega))]
    exact tx_lw_none k (w + 1) a (fun i h1 h2 => h i (by omega) (by omega))
theorem tx_fw_le (v : Nat) : ∀ k w, w + k ≤ 14 → tx_fw v k w ≤ 14
  | 0, _, _ => Nat.le_refl _
  | k + 1, w, h => by
    unfold tx_fw
    split
    · omega
    · exact tx_fw_le v k (w + 1) (by omega)
theorem tx_fw_self : ∀ w, w < 14 → tx_fw (tx_wk w) 14 0 = w ∧ tx_lw (tx_wk w) 14 0 1 = 20 + w := by decide +kernel
/-- both find the same -/
theorem tx_w_same (v : Nat) : tx_lw v 14 0 1 = if tx_fw v 14 0 < 14 then 20 + tx_fw v 14 0 else 1 := by
  by_cases h : ∃ w, w < 14 ∧ v = tx_wk w
  · obtain ⟨w, hw, rfl⟩ := h
    obtain ⟨a, b⟩ := tx_fw_self w hw
    rw [a, b, if_pos hw]
  · have h' : ∀ i, 0 ≤ i → i < 0 + 14 → v ≠ tx_wk i := fun i _ hi z => h ⟨i, by omega, z⟩
    rw [tx_fw_none 14 0 h', tx_lw_none 14 0 1 h', if_neg (by decide)]
section WORDS
variable {t : Nat} {σ ρ : sx_M} {θ : sx_L} {B : Nat → Int32}
/-- is it that word? -/
theorem tx_word {g : Nat → Nat} {n w : Nat} (hn : n ≤ 6) (hl : ∀ i, i < n → tx_l (g i)) (hw : w < 14) : (∀ i, i < 6 → (if i < n then g i else 32) = tx_wc w i) ↔ tx_v g n = tx_wk w := by
  obtain ⟨a1, a2, a3, -⟩ := tx_w_ok w hw
  constructor
  · intro h
    have hnl : n = tx_wl w := by
      rcases Nat.lt_trichotomy n (tx_wl w) with z | z | z
      · have := h n (by omega)
        rw [if_neg (Nat.lt_irrefl n)] at this
        have q := (a1 n (by omega)).1 z
        rw [← this] at q
        exact absurd q (by decide)
      · exact z
      · have := h (tx_wl w) (by omega)
        rw [if_pos z, (a1 (tx_wl w) (by omega)).2 (Nat.le_refl _)] at this
        have q := hl (tx_wl w) z
        rw [this] at q
        exact absurd q (by decide)
    rw [← a2, ← hnl]
    refine tx_v_c n (fun i hi => ?_)
    have := h i (by omega)
    rw [if_pos hi] at this
    exact this
  · intro h
    rw [← a2] at h
    obtain ⟨e1, e2⟩ := tx_v_inj n (tx_wl w) hl (fun i hi => (a1 i (by omega)).1 hi) h
    intro i hi
    by_cases z : i < n
    · rw [if_pos z]; exact e2 i z
    · rw [if_neg z]; exact ((a1 i hi).2 (by omega)).symm
theorem C_isWord (hC : tx_C t σ) {j n w : Nat} (hj : j + n ≤ t) (hn : n ≤ 6) (hl : ∀ i, i < n → tx_l (tx_c (σ 2 0 0) t (j + i))) (hw : w < 14) {Q : Int32 → sx_M → Prop} (h1 : tx_v (fun i => tx_c (σ 2 0 0) t (j + i)) n = tx_wk w → Q 1 σ) (h0 : ¬ tx_v (fun i => tx_c (σ 2 0 0) t (j + i)) n = tx_wk w → Q 0 σ) : wp_To_isWord (nI j) (nI n) (nI w) σ Q := by
  obtain ⟨ht, -⟩ := id hC
  unfold wp_To_isWord
  have i5 : vp_in (5 : Int32) 6 := in_I (n := 5) rfl (by decide) (by decide)
  have l5 : kx_len.getD (5 : Int32).toNatClampNeg 0 = 84 := by decide
  have t5 : sx_tl (5 : Int32) = nI 84 := by decide
  have key := tx_word (g := fun i => tx_c (σ 2 0 0) t (j + i)) hn hl hw
  have go : ∀ (d i : Nat), i + d = 6 → (∀ k, k < i → (if k < n then tx_c (σ 2 0 0) t (j + k) else 32) = tx_wc w k) → ∃ f, wp_To_isWord_b3 Q f (nI j) (nI n) (nI w) (nI i) σ := by
    intro d
    induction d with
    | zero =>
      intro i hi hk
      refine ⟨1, ?_⟩
      rw [wp_To_isWord_b3, if_pos (show 6 ≤ nI i from nI_le (a := 6) (by omega) (by omega))]
      exact h1 (key.mp (fun k hk6 => hk k (by omega)))
    | succ d ih =>
      intro i hi hk
      have e1 : (nI w * 6) + nI i = nI (w * 6 + i) := by rw [show nI w * 6 = nI (w * 6) from pk_mul w 6, nI_add]
      have go2 : ∀ (b : Nat), b < 257 → b = (if i < n then tx_c (σ 2 0 0) t (j + i) else 32) → ∃ f, wp_To_isWord_b29 (wp_To_isWord_b3 Q f) Q (nI j) (nI n) (nI w) (nI i) (nI b) σ := by
        intro b hb eb
        by_cases c : b = tx_wc w i
        · obtain ⟨f, hf⟩ := ih (i + 1) (by omega) (fun k hk2 => by
            by_cases z : k = i
            · rw [z, ← eb]; exact c
            · exact hk k (by omega))
          refine ⟨f, ?_⟩
          unfold wp_To_isWord_b29
          rw [e1, t5, if_neg (nI_ge (by omega) (by decide)), l5, tx_w_ch w hw i (by omega), if_pos (by rw [c]), nI_1]
          exact ⟨i5, ⟨i5, vp_in_nI (by omega) (by decide)⟩, hf⟩
        · refine ⟨0, ?_⟩
          unfold wp_To_isWord_b29 wp_To_isWord_b62
          have wlt : tx_wc w i < 2 ^ 31 := Nat.lt_trans (show tx_wc w i < 256 by
            have : ∀ w, w < 14 → ∀ i, i < 6 → tx_wc w i < 256 := by decide +kernel
            exact this w hw i (by omega)) (by decide)
          rw [e1, t5, if_neg (nI_ge (by omega) (by decide)), l5, tx_w_ch w hw i (by omega), if_neg (fun z => c ((nI_eq wlt (by omega)).mp z).symm)]
          refine ⟨i5, ⟨i5, vp_in_nI (by omega) (by decide)⟩, h0 fun z => c ?_⟩
          rw [eb]
          exact key.mpr z i (by omega)
      by_cases z : i < n
      · obtain ⟨f, hf⟩ := go2 (tx_c (σ 2 0 0) t (j + i)) (by have := tx_c_le (σ 2 0 0) t (j + i); omega) (by rw [if_pos z])
        refine ⟨f + 1, ?_⟩
        rw [wp_To_isWord_b3, if_neg (show ¬ 6 ≤ nI i from nI_ge (b := 6) (by omega) (by decide)), if_neg (nI_ge z (by omega)), nI_add]
        refine C_byteAt hC rfl (by omega) ?_
        rw [if_pos (by omega)]; exact hf
      · obtain ⟨f, hf⟩ := go2 32 (by decide) (by rw [if_neg z])
        refine ⟨f + 1, ?_⟩
        rw [wp_To_isWord_b3, if_neg (show ¬ 6 ≤ nI i from nI_ge (b := 6) (by omega) (by decide)), if_pos (nI_le (by omega) (by omega))]
        exact hf
  exact go 6 0 rfl (fun k hk => absurd hk (Nat.not_lt_zero k))
theorem C_wordOrName (hC : tx_C t σ) {j n : Nat} (hj : j + n ≤ t) (h1 : 1 ≤ n) (hn : n ≤ 8) (hl : ∀ i, i < n → tx_l (tx_c (σ 2 0 0) t (j + i))) {Q : Int32 → sx_M → Prop} (h : Q (nI (tx_fw (tx_v (fun i => tx_c (σ 2 0 0) t (j + i)) n) 14 0)) σ) : wp_To_wordOrName (nI j) (nI n) σ Q := by
  unfold wp_To_wordOrName
  by_cases c : n ≤ 6
  · rw [if_pos (show nI n ≤ 6 from nI_le (b := 6) c (by decide))]
    have go : ∀ (k w : Nat), w + k = 14 → Q (nI (tx_fw (tx_v (fun i => tx_c (σ 2 0 0) t (j + i)) n) k w)) σ → ∃ f, wp_To_wordOrName_b11 Q f (nI j) (nI n) (nI w) σ := by
      intro k
      induction k with
      | zero =>
        intro w hw hq
        refine ⟨1, ?_⟩
        rw [wp_To_wordOrName_b11, if_pos (show 13 < nI w from nI_lt (a := 13) (by omega) (by omega))]
        exact hq
      | succ k ih =>
        intro w hw hq
        unfold tx_fw at hq
        have n13 : ¬ 13 < nI w := nI_nlt (a := 13) (by omega) (by decide)
        by_cases z : tx_v (fun i => tx_c (σ 2 0 0) t (j + i)) n = tx_wk w
        · rw [if_pos z] at hq
          refine ⟨1, ?_⟩
          rw [wp_To_wordOrName_b11, if_neg n13]
          refine C_isWord hC hj c hl (by omega) (fun _ => ?_) (fun q => absurd z q)
          rw [if_neg (by decide)]; exact hq
        · rw [if_neg z] at hq
          obtain ⟨f, hf⟩ := ih (w + 1) (by omega) hq
          refine ⟨f + 1, ?_⟩
          rw [wp_To_wordOrName_b11, if_neg n13]
          refine C_isWord hC hj c hl (by omega) (fun q => absurd q z) (fun _ => ?_)
          rw [if_pos rfl, nI_1]; exact hf
    exact go 14 0 rfl h
  · rw [if_neg (show ¬ nI n ≤ 6 from nI_ge (a := 6) (by omega) (by omega))]
    obtain ⟨m, em⟩ : ∃ m, n = m + 1 := ⟨n - 1, by omega⟩
    have ge := tx_v_ge (g := fun i => tx_c (σ 2 0 0) t (j + i)) m (fun i hi => hl i (by omega))
    rw [← em] at ge
    have p6 : 27 ^ 6 ≤ 27 ^ m := Nat.pow_le_pow_right (by decide) (by omega)
    rw [tx_fw_none 14 0 (fun i _ hi z => by have := tx_wk_lt i (by omega); omega)] at h
    exact h
/-- the sort of what begins at j -/
def tx_s (B : Nat → Int32) (t j : Nat) : Nat := if j < t then (if tx_l (tx_c B t j) then (if tx_e B t j - j ≤ 8 then tx_fw (tx_v (fun i => tx_c B t (j + i)) (tx_e B t j - j)) 14 0 else 18) else if tx_d (tx_c B t j) then (if tx_e B t j - j ≤ 4 then 15 else 18) else if tx_c B t j = 59 then 16 else 18) else 17
/-- letters up to the run's end -/
theorem tx_e_l {j : Nat} (ht : t ≤ 2000) (hj : j ≤ t) (c : tx_l (tx_c B t j)) : tx_e B t j ≤ t ∧ (∀ i, i < tx_e B t j - j → tx_l (tx_c B t (j + i))) ∧ ¬ tx_l (tx_c B t (tx_e B t j)) := by
  obtain ⟨s1, s2, s3, s4⟩ := tx_r_spec tx_l (by decide) B (t := t) (i := j) ht
  have e : tx_e B t j = tx_r tx_l B t j := by unfold tx_e; rw [if_pos c]
  rw [e]
  exact ⟨s4 hj, fun i hi => s2 (j + i) (by omega) (by omega), s3⟩
theorem tx_e_d {j : Nat} (ht : t ≤ 2000) (hj : j ≤ t) (c0 : ¬ tx_l (tx_c B t j)) (c : tx_d (tx_c B t j)) : tx_e B t j ≤ t ∧ (∀ i, i < tx_e B t j - j → tx_d (tx_c B t (j + i))) ∧ ¬ tx_d (tx_c B t (tx_e B t j)) := by
  obtain ⟨s1, s2, s3, s4⟩ := tx_r_spec tx_d (by decide) B (t := t) (i := j) ht
  have e : tx_e B t j = tx_r tx_d B t j := by unfold tx_e; rw [if_neg c0, if_pos c]
  rw [e]
  exact ⟨s4 hj, fun i hi => s2 (j + i) (by omega) (by omega), s3⟩
theorem C_sortOf (hC : tx_C t σ) {j : Nat} (hj : j ≤ t) {Q : Int32 → sx_M → Prop} (h : Q (nI (tx_s (σ 2 0 0) t j)) σ) : wp_To_sortOf (nI j) (nI (tx_e (σ 2 0 0) t j)) σ Q := by
  obtain ⟨ht, h1⟩ := id hC
  have ee := tx_e_le (B := σ 2 0 0) ht hj
  unfold tx_s at h
  unfold wp_To_sortOf wp_To_sortOf_b40 wp_To_sortOf_b63 wp_To_sortOf_b81
  rw [h1, pk_sub (Nat.le_of_lt ee.1)]
  by_cases c : j < t
  · rw [if_pos c] at h
    rw [if_pos (nI_lt c (by omega))]
    refine C_isLetter hC rfl (by omega) (fun c1 => ?_) (fun c1 => ?_)
    · rw [if_pos c1] at h
      rw [if_neg (by decide)]
      obtain ⟨l1, l2, l3⟩ := tx_e_l (B := σ 2 0 0) ht hj c1
      by_cases c2 : tx_e (σ 2 0 0) t j - j ≤ 8
      · rw [if_pos c2] at h
        rw [if_neg (show ¬ 8 < nI (tx_e (σ 2 0 0) t j - j) from nI_nlt (a := 8) c2 (by decide))]
        exact C_wordOrName hC (by omega) (by omega) c2 l2 h
      · rw [if_neg c2] at h
        rw [if_pos (show 8 < nI (tx_e (σ 2 0 0) t j - j) from nI_lt (a := 8) (by omega) (by omega))]; exact h
    · rw [if_neg c1] at h
      rw [if_pos rfl]
      refine C_isDigit hC rfl (by omega) (fun c2 => ?_) (fun c2 => ?_)
      · rw [if_pos c2] at h
        rw [if_neg (by decide)]
        by_cases c3 : tx_e (σ 2 0 0) t j - j ≤ 4
        · rw [if_pos c3] at h
          rw [if_neg (show ¬ 4 < nI (tx_e (σ 2 0 0) t j - j) from nI_nlt (a := 4) c3 (by decide))]; exact h
        · rw [if_neg c3] at h
          rw [if_pos (show 4 < nI (tx_e (σ 2 0 0) t j - j) from nI_lt (a := 4) (by omega) (by omega))]; exact h
      · rw [if_neg c2] at h
        rw [if_pos rfl]
        refine C_byteAt hC rfl (by omega) ?_
        rw [if_pos c]
        have lt := tx_c_lt (B := σ 2 0 0) c
        by_cases c3 : tx_c (σ 2 0 0) t j = 59
        · rw [if_pos c3] at h
          rw [if_pos (show nI (tx_c (σ 2 0 0) t j) = 59 by rw [c3]; rfl)]; exact h
        · rw [if_neg c3] at h
          rw [if_neg (show ¬ nI (tx_c (σ 2 0 0) t j) = 59 from fun z => c3 ((nI_eq (b := 59) (by omega) (by decide)).mp z))]; exact h
  · rw [if_neg c] at h
    rw [if_neg (nI_nlt (by omega) (by omega))]; exact h
end WORDS
