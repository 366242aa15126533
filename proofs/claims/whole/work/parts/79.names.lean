section NAMES
variable {t N v m p l : Nat} {σ σ2 ρ ρ2 : sx_M} {θ θ2 : sx_L} {B : Nat → Int32}
/-- a name's letters -/
theorem tx_14 (ht : t ≤ 2000) {m : Nat} (h17 : ∀ i, i < m → tx_o B t i ≠ 17) (h : tx_o B t m = 14) : tx_n B t m ≤ 8 ∧ tx_j B t m + tx_n B t m ≤ t ∧ ∀ i, i < tx_n B t m → tx_l (tx_c B t (tx_j B t m + i)) := by
  obtain ⟨-, jm⟩ := tx_p_le (B := B) ht m h17
  have pe : tx_p B t (m + 1) = tx_e B t (tx_j B t m) := rfl
  have ee := tx_e_le (B := B) ht jm
  unfold tx_o tx_s at h
  by_cases c : tx_j B t m < t
  · rw [if_pos c] at h
    by_cases c1 : tx_l (tx_c B t (tx_j B t m))
    · rw [if_pos c1] at h
      obtain ⟨d1, d2, d3⟩ := tx_e_l (B := B) ht jm c1
      by_cases c3 : tx_e B t (tx_j B t m) - tx_j B t m ≤ 8
      · refine ⟨c3, ?_, d2⟩
        unfold tx_n; rw [pe]; omega
      · rw [if_neg c3] at h; omega
    · rw [if_neg c1] at h
      by_cases c2 : tx_d (tx_c B t (tx_j B t m))
      · rw [if_pos c2] at h
        split at h <;> omega
      · rw [if_neg c2] at h
        split at h <;> omega
  · rw [if_neg c] at h; omega
/-- names are alike if their numbers are -/
theorem tx_nm_eq (ht : t ≤ 2000) {a b : Nat} (ha17 : ∀ i, i < a → tx_o B t i ≠ 17) (hb17 : ∀ i, i < b → tx_o B t i ≠ 17) (ha : tx_o B t a = 14) (hb : tx_o B t b = 14) : tx_nm B t a = tx_nm B t b ↔ (tx_n B t a = tx_n B t b ∧ ∀ i, i < tx_n B t a → tx_c B t (tx_j B t a + i) = tx_c B t (tx_j B t b + i)) := by
  obtain ⟨a1, a2, a3⟩ := tx_14 ht ha17 ha
  obtain ⟨b1, b2, b3⟩ := tx_14 ht hb17 hb
  have lt : ∀ (g : Nat → Nat) (n : Nat), n ≤ 8 → (∀ i, i < n → tx_l (g i)) → tx_v g n < 2 ^ 63 := fun g n hn hl => by
    have a := tx_v_lt (g := g) n (fun i hi => (hl i hi).2)
    have b : 27 ^ n ≤ 27 ^ 8 := Nat.pow_le_pow_right (by decide) hn
    have : (27 : Nat) ^ 8 < 2 ^ 63 := by decide
    omega
  unfold tx_nm
  rw [pk_lEQ (lt _ _ a1 a3) (lt _ _ b1 b3)]
  constructor
  · intro h
    exact tx_v_inj (tx_n B t a) (tx_n B t b) a3 b3 h
  · intro h
    rw [← h.1]
    exact tx_v_c (tx_n B t a) h.2
theorem C_areAlike (hC : tx_C t σ) {a b n : Nat} (ha : a + n ≤ t) (hb : b + n ≤ t) {Q : Int32 → sx_M → Prop} (h1 : (∀ i, i < n → tx_c (σ 2 0 0) t (a + i) = tx_c (σ 2 0 0) t (b + i)) → Q 1 σ) (h0 : ¬ (∀ i, i < n → tx_c (σ 2 0 0) t (a + i) = tx_c (σ 2 0 0) t (b + i)) → Q 0 σ) : wp_Ta_areAlike (nI a) (nI b) (nI n) σ Q := by
  obtain ⟨ht, -⟩ := id hC
  have go : ∀ (d i : Nat), i + d = n → (∀ k, k < i → tx_c (σ 2 0 0) t (a + k) = tx_c (σ 2 0 0) t (b + k)) → ∃ f, wp_Ta_areAlike_b3 Q f (nI a) (nI b) (nI n) (nI i) σ := by
    intro d
    induction d with
    | zero =>
      intro i hi hk
      refine ⟨1, ?_⟩
      rw [wp_Ta_areAlike_b3, if_pos (nI_le (by omega) (by omega))]
      exact h1 (fun k hk2 => hk k (by omega))
    | succ d ih =>
      intro i hi hk
      have la := tx_c_lt (B := σ 2 0 0) (t := t) (i := a + i) (by omega)
      have lb := tx_c_lt (B := σ 2 0 0) (t := t) (i := b + i) (by omega)
      by_cases c : tx_c (σ 2 0 0) t (a + i) = tx_c (σ 2 0 0) t (b + i)
      · obtain ⟨f, hf⟩ := ih (i + 1) (by omega) (fun k hk2 => by
          by_cases z : k = i
          · rw [z]; exact c
          · exact hk k (by omega))
        refine ⟨f + 1, ?_⟩
        rw [wp_Ta_areAlike_b3, if_neg (nI_ge (by omega) (by omega)), nI_add, nI_add]
        refine C_byteAt hC rfl (by omega) ?_
        rw [if_pos (by omega)]
        refine C_byteAt hC rfl (by omega) ?_
        rw [if_pos (show b + i < t by omega), if_pos (by rw [c]), nI_1]; exact hf
      · refine ⟨1, ?_⟩
        rw [wp_Ta_areAlike_b3, if_neg (nI_ge (by omega) (by omega)), nI_add, nI_add]
        refine C_byteAt hC rfl (by omega) ?_
        rw [if_pos (by omega)]
        refine C_byteAt hC rfl (by omega) ?_
        rw [if_pos (show b + i < t by omega), if_neg (fun z => c ((nI_eq (by omega) (by omega)).mp z))]
        exact h0 (fun z => c (z i (by omega)))
  exact go n 0 (by omega) (fun k hk => absurd hk (Nat.not_lt_zero k))
theorem C_numberAt (hC : tx_C t σ) {j n : Nat} (hj : j + n ≤ t) (hd : ∀ i, i < n → tx_d (tx_c (σ 2 0 0) t (j + i))) {Q : Int32 → sx_M → Prop} (h : Q (nI (tx_dv (fun i => tx_c (σ 2 0 0) t (j + i)) n)) σ) : wp_Ta_numberAt (nI j) (nI n) σ Q := by
  obtain ⟨ht, -⟩ := id hC
  have go : ∀ (d i : Nat), i + d = n → ∃ f, wp_Ta_numberAt_b5 Q f (nI j) (nI n) (nI (tx_dv (fun i => tx_c (σ 2 0 0) t (j + i)) i)) (nI (j + i)) σ := by
    intro d
    induction d with
    | zero =>
      intro i hi
      refine ⟨1, ?_⟩
      rw [wp_Ta_numberAt_b5, nI_add, if_pos (nI_le (by omega) (by omega)), show i = n by omega]; exact h
    | succ d ih =>
      intro i hi
      obtain ⟨f, hf⟩ := ih (i + 1) (by omega)
      have d1 := (hd i (by omega)).1
      refine ⟨f + 1, ?_⟩
      rw [wp_Ta_numberAt_b5, nI_add, if_neg (nI_ge (by omega) (by omega))]
      refine C_byteAt hC rfl (by omega) ?_
      rw [if_pos (by omega), show nI (tx_dv (fun i => tx_c (σ 2 0 0) t (j + i)) i) * 10 = nI (tx_dv (fun i => tx_c (σ 2 0 0) t (j + i)) i * 10) from pk_mul _ 10, nI_add, show nI (tx_dv (fun i => tx_c (σ 2 0 0) t (j + i)) i * 10 + tx_c (σ 2 0 0) t (j + i)) - 48 = nI (tx_dv (fun i => tx_c (σ 2 0 0) t (j + i)) i * 10 + tx_c (σ 2 0 0) t (j + i) - 48) from pk_sub (b := 48) (by omega), nI_1, show tx_dv (fun i => tx_c (σ 2 0 0) t (j + i)) i * 10 + tx_c (σ 2 0 0) t (j + i) - 48 = 10 * tx_dv (fun i => tx_c (σ 2 0 0) t (j + i)) i + (tx_c (σ 2 0 0) t (j + i) - 48) by omega]
      exact hf
  exact go n 0 (by omega)
/-- where the class stands when it takes the text: its tokens -/
def cc_ (B : Nat → Int32) (t N : Nat) (σ : sx_M) : Prop := tx_C t σ ∧ σ 2 0 0 = B ∧ N ≤ 400 ∧ σ 4 0 0 3 = nI N ∧ (∀ i, i < N → tk_C B t σ i) ∧ (∀ i, i < N → tx_o B t i ≠ 17)
/-- what taking a text may touch of the class -/
def cc_f (σ σ2 : sx_M) : Prop := ∀ k n p, ¬ (k = 3 ∨ k = 15 ∨ ((k = 8 ∨ k = 9 ∨ k = 10 ∨ k = 11 ∨ k = 13 ∨ k = 14) ∧ n = 1)) → σ2 k n p = σ k n p
theorem cc_f.rf : cc_f σ σ := fun _ _ _ _ => rfl
theorem cc_f.tr {a b c : sx_M} (h : cc_f a b) (h2 : cc_f b c) : cc_f a c := fun k n p q => (h2 k n p q).trans (h k n p q)
theorem cc_f.u {a b : sx_M} (h : cc_f a b) {k n p f : Nat} {x : Int32} (hk : k = 3 ∨ k = 15 ∨ ((k = 8 ∨ k = 9 ∨ k = 10 ∨ k = 11 ∨ k = 13 ∨ k = 14) ∧ n = 1)) : cc_f a (sx_u b k n p f x) := fun k2 n2 p2 q => by
  rw [sx_u_row _ _ _ _ _ _ (by omega)]; exact h k2 n2 p2 q
theorem cc_.mv (h : cc_ B t N σ) (hf : cc_f σ σ2) : cc_ B t N σ2 := by
  obtain ⟨⟨a1, a2⟩, b, c, d, e, f⟩ := h
  refine ⟨⟨a1, by rw [hf 1 0 0 (by omega)]; exact a2⟩, by rw [hf 2 0 0 (by omega)]; exact b, c, by rw [hf 4 0 0 (by omega)]; exact d, fun i hi => ?_, f⟩
  unfold tk_C
  rw [hf 5 0 0 (by omega), hf 6 0 0 (by omega), hf 7 0 0 (by omega)]; exact e i hi
theorem cc_.b (h : cc_ B t N σ) : t ≤ 2000 := h.1.1
theorem cc_.e (h : cc_ B t N σ) {m : Nat} (hm : m ≤ N) : ∀ i, i < m → tx_o B t i ≠ 17 := fun i hi => h.2.2.2.2.2 i (by omega)
theorem C_intAt (h : cc_ B t N σ) (hm : m < N) (ho : tx_o B t m = 15) {Q : Int32 → sx_M → Prop} (hq : Q (nI (tx_i B t m)) σ) : wp_Re_intAt (nI m) σ Q := by
  obtain ⟨d1, d2, d3, d4, d5⟩ := tx_15 h.b (h.e (Nat.le_of_lt hm)) ho
  have hN := h.2.2.1
  obtain ⟨k1, k2, k3⟩ := h.2.2.2.2.1 m hm
  unfold wp_Re_intAt
  rw [nI_clamp (n := m) (by omega), k2, k3]
  refine ⟨vp_in_nI (by omega) (by decide), vp_in_nI (by omega) (by decide), ?_⟩
  have eB := h.2.1
  refine C_numberAt h.1 d3 (fun i hi => by rw [eB]; exact d4 i hi) ?_
  rw [eB]; exact hq
/-- names told, on both sides -/
def nm_ (B : Nat → Int32) (t N v p : Nat) (σ : sx_M) (θ : sx_L) : Prop := ∀ i, i < p → ∃ q, q < N ∧ σ 15 0 0 i = nI q ∧ tx_o B t q = 14 ∧ θ 60 (7 * v + i) = tx_nm B t q
theorem C_postNamed (h : cc_ B t N σ) (hp : p ≤ 7) (h8 : σ 8 1 0 0 = nI p) (hn : nm_ B t N v p σ θ) (hm : m < N) (ho : tx_o B t m = 14) {Q : Int32 → sx_M → Prop} (hq : Q (pr_m θ v (tx_nm B t m) p 0) σ) : wp_Re_postNamed (nI m) σ Q := by
  have hN := h.2.2.1
  have ht := h.b
  have eB := h.2.1
  obtain ⟨k1, k2, k3⟩ := h.2.2.2.2.1 m hm
  obtain ⟨m1, m2, m3⟩ := tx_14 ht (h.e (Nat.le_of_lt hm)) ho
  have cm : (nI m).toNatClampNeg = m := nI_clamp (by omega)
  unfold wp_Re_postNamed
  rw [cm, k3]
  refine ⟨vp_in_nI (by omega) (by decide), ?_⟩
  have go : ∀ (c i : Nat), i + c = p → Q (pr_m θ v (tx_nm B t m) c i) σ → ∃ f, wp_Re_postNamed_b13 Q f (nI m) (nI (tx_n B t m)) (nI i) σ := by
    intro c
    induction c with
    | zero =>
      intro i hi hq
      refine ⟨1, ?_⟩
      rw [wp_Re_postNamed_b13, h8, if_pos (nI_le (by omega) (by omega))]; exact hq
    | succ c ih =>
      intro i hi hq
      obtain ⟨q, q1, q2, q3, q4⟩ := hn i (by omega)
      obtain ⟨n1, n2, n3⟩ := tx_14 ht (h.e (Nat.le_of_lt q1)) q3
      obtain ⟨j1, j2, j3⟩ := h.2.2.2.2.1 q q1
      have cq : (nI q).toNatClampNeg = q := nI_clamp (by omega)
      have iq : vp_in (nI q) 400 := vp_in_nI (by omega) (by decide)
      have key := tx_nm_eq ht (h.e (Nat.le_of_lt q1)) (h.e (Nat.le_of_lt hm)) q3 ho
      unfold pr_m at hq
      rw [q4] at hq
      have head : ∀ f, (if nI (tx_n B t q) = nI (tx_n B t m) then (vp_in (nI q) 400 ∧ (vp_in (nI m) 400 ∧ (wp_Ta_areAlike (nI (tx_j B t q)) (nI (tx_j B t m)) (nI (tx_n B t m)) σ (fun r8 σ8 => if r8 = 0 then (wp_Re_postNamed_b79 (wp_Re_postNamed_b13 Q f) Q (nI m) (nI (tx_n B t m)) (nI i) σ8) else (wp_Re_postNamed_b80 (wp_Re_postNamed_b13 Q f) Q (nI m) (nI (tx_n B t m)) (nI i) 1 σ8))))) else (wp_Re_postNamed_b79 (wp_Re_postNamed_b13 Q f) Q (nI m) (nI (tx_n B t m)) (nI i) σ)) → wp_Re_postNamed_b13 Q (f + 1) (nI m) (nI (tx_n B t m)) (nI i) σ := fun f hf => by
        rw [wp_Re_postNamed_b13, h8, if_neg (nI_ge (by omega) (by omega)), nI_clamp (n := i) (by omega), q2, cq, cm, j2, j3, k2]
        exact ⟨vp_in_nI (by omega) (by decide), iq, hf⟩
      by_cases e : tx_nm B t q = tx_nm B t m
      · rw [if_pos e] at hq
        obtain ⟨e1, e2⟩ := key.mp e
        refine ⟨1, head 0 ?_⟩
        rw [if_pos (by rw [e1])]
        refine ⟨iq, vp_in_nI (by omega) (by decide), ?_⟩
        rw [← e1]
        refine C_areAlike h.1 n2 (by omega) (fun _ => ?_) (fun z => absurd (fun k hk => by rw [eB]; exact e2 k hk) z)
        rw [if_neg (by decide)]
        unfold wp_Re_postNamed_b80
        rw [if_neg (by decide)]; exact hq
      · rw [if_neg e] at hq
        obtain ⟨f, hf⟩ := ih (i + 1) (by omega) hq
        have b79 : wp_Re_postNamed_b79 (wp_Re_postNamed_b13 Q f) Q (nI m) (nI (tx_n B t m)) (nI i) σ := by
          unfold wp_Re_postNamed_b79 wp_Re_postNamed_b80
          rw [if_pos rfl, nI_1]; exact hf
        refine ⟨f + 1, head f ?_⟩
        by_cases e1 : tx_n B t q = tx_n B t m
        · rw [if_pos (by rw [e1])]
          refine ⟨iq, vp_in_nI (by omega) (by decide), ?_⟩
          refine C_areAlike h.1 (by omega) m2 (fun z => absurd (key.mpr ⟨e1, fun k hk => by have := z k (by omega); rw [eB] at this; exact this⟩) e) (fun _ => ?_)
          rw [if_pos rfl]; exact b79
        · rw [if_neg (fun z => e1 ((nI_eq (by omega) (by omega)).mp z))]; exact b79
  exact go p 0 (by omega) hq
/-- blame -/
def cc_b (σ : sx_M) (k x : Nat) : sx_M := sx_u (sx_u σ 3 0 0 3 (nI k)) 3 0 0 4 (nI x)
theorem cc_b_f {k x : Nat} : cc_f σ (cc_b σ k x) := (cc_f.rf.u (Or.inl rfl)).u (Or.inl rfl)
theorem cc_b_v {k x : Nat} : cc_b σ k x 3 0 0 3 = nI k ∧ cc_b σ k x 3 0 0 4 = nI x := by
  unfold cc_b
  exact ⟨by rw [sx_u_at, if_neg (by omega), sx_u_at]; simp, by rw [sx_u_at]; simp⟩
theorem C_blame (h : cc_ B t N σ) (hm : m < N) {y : Int32} {k : Nat} (hy : y = nI k) {Q : sx_M → Prop} (hq : Q (cc_b σ k (tx_j B t m))) : wp_Re_blame y (nI m) σ Q := by
  have hN := h.2.2.1
  subst hy
  unfold wp_Re_blame
  intro _ q; subst q
  rw [nI_clamp (n := m) (by omega), sx_u_row _ _ _ _ _ _ (show ¬ (6 = 3 ∧ 0 = 0 ∧ 0 = 0) by decide), (h.2.2.2.2.1 m hm).2.1]
  refine ⟨vp_in_nI (by omega) (by decide), ?_⟩
  intro _ q; subst q
  exact hq
/-- a tell's size, and its beginning -/
theorem C_tellSize (h : cc_ B t N σ) (hm : m < N) {Q : Int32 → sx_M → Prop} (hq : Q (nI (1 + sy_l (sy_h (tx_o B t m)))) σ) : wp_Re_tellSize (nI m) σ Q := by
  have hN := h.2.2.1
  have hh := sy_h_lt (tx_o B t m)
  unfold wp_Re_tellSize
  rw [nI_clamp (n := m) (by omega), (h.2.2.2.2.1 m hm).1]
  refine ⟨vp_in_nI (by omega) (by decide), C_shapeOf (k := tx_o B t m) (tx_s_le B t _) ⟨vp_in_nI (by omega) (by decide), ?_⟩⟩
  rw [(sy_tl _ (by omega)).1, show (1 : Int32) + nI (sy_l (sy_h (tx_o B t m))) = nI (1 + sy_l (sy_h (tx_o B t m))) from nI_add 1 _]; exact hq
theorem C_setNumber {k w : Nat} (hk : k < 9) (hw : w < 10000) {Q : Int32 → sx_M → Prop} (h0 : w < st_lo k ∨ st_hi k < w → Q 0 σ) (h1 : ¬ (w < st_lo k ∨ st_hi k < w) → Q 1 (sx_u σ 14 1 0 k (nI (st_v k w)))) : wp_Pl_setNumber 1 (nI (k + 2)) (nI w) σ Q := by
  obtain ⟨lo, hi, s1, s2⟩ := st_ok k hk
  have e : nI (k + 2) - 2 = nI k := by rw [show nI (k + 2) - 2 = nI (k + 2 - 2) from pk_sub (b := 2) (by omega)]; congr 1
  have ik : vp_in (nI k) 9 := vp_in_nI hk (by decide)
  unfold wp_Pl_setNumber wp_Pl_setNumber_b34 wp_Pl_setNumber_b54
  rw [e, if_neg (nI_pos (by omega)), if_neg (show ¬ 9 ≤ nI k from nI_ge (b := 9) hk (by decide)), nI_clamp (n := k) (by omega), s1, s2]
  refine ⟨ik, ?_⟩
  by_cases c1 : w < st_lo k
  · rw [if_pos (nI_lt c1 (by omega))]; exact h0 (Or.inl c1)
  · rw [if_neg (nI_nlt (by omega) (by omega))]
    refine ⟨ik, ?_⟩
    by_cases c2 : w ≤ st_hi k
    · rw [if_pos (nI_le c2 (by omega))]
      have hh := h1 (by omega)
      unfold st_v at hh
      by_cases c3 : k = 0
      · rw [if_pos c3] at hh
        rw [if_pos (show nI k = 0 by rw [c3]; rfl), st_even (by omega)]
        refine ⟨ik, ?_⟩
        intro _ q; subst q; exact hh
      · rw [if_neg c3] at hh
        rw [if_neg (nI_ne0 (by omega) (by omega))]
        refine ⟨ik, ?_⟩
        intro _ q; subst q; exact hh
    · rw [if_neg (nI_ge (by omega) (by omega))]; exact h0 (Or.inr (by omega))
/-- a link of the draft -/
def cc_l (σ : sx_M) (l a b c : Nat) : sx_M := sx_u (sx_u (sx_u (sx_u (sx_u (sx_u σ 9 1 0 l (nI a)) 10 1 0 l (nI b)) 11 1 0 l (nI c)) 13 1 a b (nI l)) 13 1 b a (nI l)) 8 1 0 1 (nI (l + 1))
theorem C_addLink {a b c : Nat} (hl : l < 16) (h1 : σ 8 1 0 1 = nI l) (ha : a < 7) (hb : b < 7) {Q : sx_M → Prop} (hq : Q (cc_l σ l a b c)) : wp_Pl_addLink 1 (nI a) (nI b) (nI c) σ Q := by
  have il : vp_in (nI l) 16 := vp_in_nI hl (by decide)
  have cl : (nI l).toNatClampNeg = l := nI_clamp (by omega)
  have ia : vp_in (nI a) 7 := vp_in_nI ha (by decide)
  have ib : vp_in (nI b) 7 := vp_in_nI hb (by decide)
  have ca : (nI a).toNatClampNeg = a := nI_clamp (by omega)
  have cb : (nI b).toNatClampNeg = b := nI_clamp (by omega)
  unfold wp_Pl_addLink wp_Pl_addLink_b73
  rw [h1, if_neg (show ¬ 16 ≤ nI l from nI_ge (b := 16) hl (by decide)), cl]
  refine ⟨il, ?_⟩
  intro σ3 q3
  have e3 : σ3 8 1 0 1 = nI l := by rw [q3, sx_u_row _ _ _ _ _ _ (by decide)]; exact h1
  rw [e3, cl]
  refine ⟨il, ?_⟩
  intro σ5 q5
  have e5 : σ5 8 1 0 1 = nI l := by rw [q5, sx_u_row _ _ _ _ _ _ (by decide)]; exact e3
  rw [e5, cl]
  refine ⟨il, ?_⟩
  intro σ7 q7
  have e7 : σ7 8 1 0 1 = nI l := by rw [q7, sx_u_row _ _ _ _ _ _ (by decide)]; exact e5
  rw [e7, ca, cb]
  refine ⟨ia, ib, ?_⟩
  intro σ10 q10
  have e10 : σ10 8 1 0 1 = nI l := by rw [q10, sx_u_row _ _ _ _ _ _ (by omega)]; exact e7
  rw [e10]
  refine ⟨ib, ia, ?_⟩
  intro σ13 q13
  have e13 : σ13 8 1 0 1 = nI l := by rw [q13, sx_u_row _ _ _ _ _ _ (by omega)]; exact e10
  rw [e13, nI_1]
  intro σ14 q14
  have : σ14 = cc_l σ l a b c := by rw [q14, q13, q10, q7, q5, q3]; rfl
  rw [this]; exact hq
end NAMES
