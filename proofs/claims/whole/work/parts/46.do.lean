theorem pn_b_tb (f : Nat → Int32) (n i : Nat) : (pn_b f n).testBit i = decide (i < n ∧ f i = 1) := by
  rw [Nat.testBit_eq_decide_div_mod_eq]
  by_cases h : i < n
  · rw [pn_b_bit f n i h]
    by_cases c : f i = 1
    · simp [c, h]
    · simp [c]
  · have : pn_b f n / 2 ^ i = 0 := Nat.div_eq_of_lt (Nat.lt_of_lt_of_le (pn_b_lt f n) (Nat.pow_le_pow_right (by decide) (by omega)))
    rw [this]
    simp [h]
theorem xor_I {a b : Nat} (ha : a < 2 ^ 31) (hb : b < 2 ^ 31) : nI a ^^^ nI b = nI (a ^^^ b) := by
  apply Int32.toBitVec_inj.mp
  apply BitVec.eq_of_toNat_eq
  rw [Int32.toBitVec_xor, BitVec.toNat_xor, pk_tn (by omega), pk_tn (by omega), pk_tn (Nat.lt_of_lt_of_le (Nat.xor_lt_two_pow ha hb) (by decide))]
theorem or_I {a b : Nat} (ha : a < 2 ^ 31) (hb : b < 2 ^ 31) : nI a ||| nI b = nI (a ||| b) := by
  apply Int32.toBitVec_inj.mp
  apply BitVec.eq_of_toNat_eq
  rw [Int32.toBitVec_or, BitVec.toNat_or, pk_tn (by omega), pk_tn (by omega), pk_tn (Nat.lt_of_lt_of_le (Nat.or_lt_two_pow ha hb) (by decide))]
theorem shl_I : ∀ l, l < 31 → (1 : Int32) <<< (nI l &&& 31) = nI (2 ^ l) := by decide +kernel
/-- one bit of them is another one -/
theorem pn_b_flip {f g : Nat → Int32} {n l : Nat} (hl : l < n) (hn : n ≤ 16) (hz : ∀ i, i < n → pn_z (f i)) (ho : ∀ i, ¬ i = l → g i = f i) (hx : pn_z (g l)) (hd : ¬ g l = f l) : nI (pn_b f n) ^^^ (1 <<< (nI l &&& 31)) = nI (pn_b g n) := by
  have b1 := pn_b_lt f n
  have p1 : 2 ^ n ≤ 2 ^ 16 := Nat.pow_le_pow_right (by decide) hn
  have p2 : 2 ^ l < 2 ^ 31 := Nat.pow_lt_pow_right (by decide) (by omega)
  rw [shl_I l (by omega), xor_I (by omega) p2]
  congr 1
  apply Nat.eq_of_testBit_eq
  intro i
  rw [Nat.testBit_xor, pn_b_tb, pn_b_tb, Nat.testBit_two_pow]
  by_cases c : i = l
  · subst c
    rcases hz i hl with z | z <;> rcases hx with y | y
    · exact absurd (y.trans z.symm) hd
    · simp [z, y, hl]
    · simp [z, y, hl]
    · exact absurd (y.trans z.symm) hd
  · rw [ho i c]
    have : ¬ l = i := fun z => c z.symm
    simp [this]
section DO
variable {P L v m n k b : Nat} {σ σ2 ρ ρ2 : sx_M} {θ : sx_L}
theorem pn_N.setU (h : pn_N P L m σ n ρ k b) (hC : ∀ q p, ¬ q = 18 → σ2 q n p = σ q n p) (hR : ∀ j, ¬ j = b + 8 → ρ2 k 0 0 j = ρ k 0 0 j) (h18 : ∀ l, l < L → pn_z (σ2 18 n 0 l)) (h8 : ρ2 k 0 0 (b + 8) = nI (pn_b (σ2 18 n 0) L)) : pn_N P L m σ2 n ρ2 k b := by
  obtain ⟨a0, a1, a2, a3, a4, a5, a6, a7, a8, a9, a10, a11, a12⟩ := h
  obtain ⟨hP, hL⟩ := a0
  refine ⟨⟨hP, hL⟩, fun f hf => ?_, ⟨a2.1, ?_, ?_⟩, ⟨h18, h8⟩, ⟨fun p hp => ?_, ?_⟩, fun l hl => ?_, fun p hp w hw => ?_, fun p j hp hj => ?_, fun p j hp hj q => ?_, fun i hi => ?_, fun p hp => ?_, fun p j hp hj => ?_, fun q => ?_⟩
  · rw [hR _ (by omega), hC 16 0 (by decide)]; exact a1 f hf
  · rw [hR _ (by omega)]; exact a2.2.1
  · rw [hC 20 0 (by decide)]; exact a2.2.2
  · rw [hC 27 p (by decide)]; exact a4.1 p hp
  · rw [hR _ (by omega), show (fun p => σ2 27 n p 0) = fun p => σ 27 n p 0 from funext fun p => by rw [hC 27 p (by decide)]]; exact a4.2
  · rw [hC 19 0 (by decide), hR _ (by omega)]; exact a5 l hl
  · rw [hC 27 p (by decide), hR _ (by omega)]; exact a6 p hp w hw
  · rw [hC 28 p (by decide), hC 29 p (by decide), hC 30 p (by decide), hR _ (by omega), hR _ (by omega), hR _ (by omega)]; exact a7 p j hp hj
  · rw [hR _ (by omega)]; exact a8 p j hp hj q
  · rw [hC 21 0 (by decide), hC 22 0 (by decide), hC 23 0 (by decide), hC 24 0 (by decide), hC 25 0 (by decide), hC 26 0 (by decide), hR _ (by omega), hR _ (by omega)]; exact a9 i hi
  · rw [hC 27 p (by decide)]; exact a10 p hp
  · rw [hC 28 p (by decide), hC 29 p (by decide)]; exact a11 p j hp hj
  · rw [hC 27 0 (by decide)]; exact a12 q
theorem pn_N.setK (h : pn_N P L m σ n ρ k b) {l0 : Nat} (hC : ∀ q p, ¬ q = 19 → σ2 q n p = σ q n p) (h19 : ∀ l, ¬ l = l0 → σ2 19 n 0 l = σ 19 n 0 l) (hR : ∀ j, ¬ j = b + 10 + l0 → ρ2 k 0 0 j = ρ k 0 0 j) (hl : l0 < L) (hv : ρ2 k 0 0 (b + 10 + l0) = σ2 19 n 0 l0 ∧ ∃ c, 1 ≤ c ∧ c ≤ 9 ∧ σ2 19 n 0 l0 = nI c) : pn_N P L m σ2 n ρ2 k b := by
  obtain ⟨a0, a1, a2, a3, a4, a5, a6, a7, a8, a9, a10, a11, a12⟩ := h
  obtain ⟨hP, hL⟩ := a0
  refine ⟨⟨hP, hL⟩, fun f hf => ?_, ⟨a2.1, ?_, ?_⟩, ⟨fun l hl => ?_, ?_⟩, ⟨fun p hp => ?_, ?_⟩, fun l hl => ?_, fun p hp w hw => ?_, fun p j hp hj => ?_, fun p j hp hj q => ?_, fun i hi => ?_, fun p hp => ?_, fun p j hp hj => ?_, fun q => ?_⟩
  · rw [hR _ (by omega), hC 16 0 (by decide)]; exact a1 f hf
  · rw [hR _ (by omega)]; exact a2.2.1
  · rw [hC 20 0 (by decide)]; exact a2.2.2
  · rw [hC 18 0 (by decide)]; exact a3.1 l hl
  · rw [hC 18 0 (by decide), hR _ (by omega)]; exact a3.2
  · rw [hC 27 p (by decide)]; exact a4.1 p hp
  · rw [hR _ (by omega), show (fun p => σ2 27 n p 0) = fun p => σ 27 n p 0 from funext fun p => by rw [hC 27 p (by decide)]]; exact a4.2
  · by_cases c : l = l0
    · rw [c]; exact hv
    · rw [h19 l c, hR _ (by omega)]; exact a5 l hl
  · rw [hC 27 p (by decide), hR _ (by omega)]; exact a6 p hp w hw
  · rw [hC 28 p (by decide), hC 29 p (by decide), hC 30 p (by decide), hR _ (by omega), hR _ (by omega), hR _ (by omega)]; exact a7 p j hp hj
  · rw [hR _ (by omega)]; exact a8 p j hp hj q
  · rw [hC 21 0 (by decide), hC 22 0 (by decide), hC 23 0 (by decide), hC 24 0 (by decide), hC 25 0 (by decide), hC 26 0 (by decide), hR _ (by omega), hR _ (by omega)]; exact a9 i hi
  · rw [hC 27 p (by decide)]; exact a10 p hp
  · rw [hC 28 p (by decide), hC 29 p (by decide)]; exact a11 p j hp hj
  · rw [hC 27 0 (by decide)]; exact a12 q
theorem pn_N.setO (h : pn_N P L m σ n ρ k b) (hC : ∀ q p, ¬ q = 27 → σ2 q n p = σ q n p) (h27 : ∀ p j, 1 ≤ j → σ2 27 n p j = σ 27 n p j) (hR : ∀ j, ¬ j = b + 9 → ρ2 k 0 0 j = ρ k 0 0 j) (ho : ∀ p, p < P → pn_z (σ2 27 n p 0)) (h9 : ρ2 k 0 0 (b + 9) = nI (pn_b (fun p => σ2 27 n p 0) P)) : pn_N P L m σ2 n ρ2 k b := by
  obtain ⟨a0, a1, a2, a3, a4, a5, a6, a7, a8, a9, a10, a11, a12⟩ := h
  obtain ⟨hP, hL⟩ := a0
  refine ⟨⟨hP, hL⟩, fun f hf => ?_, ⟨a2.1, ?_, ?_⟩, ⟨fun l hl => ?_, ?_⟩, ⟨ho, h9⟩, fun l hl => ?_, fun p hp w hw => ?_, fun p j hp hj => ?_, fun p j hp hj q => ?_, fun i hi => ?_, fun p hp => ?_, fun p j hp hj => ?_, fun q => ?_⟩
  · rw [hR _ (by omega), hC 16 0 (by decide)]; exact a1 f hf
  · rw [hR _ (by omega)]; exact a2.2.1
  · rw [hC 20 0 (by decide)]; exact a2.2.2
  · rw [hC 18 0 (by decide)]; exact a3.1 l hl
  · rw [hC 18 0 (by decide), hR _ (by omega)]; exact a3.2
  · rw [hC 19 0 (by decide), hR _ (by omega)]; exact a5 l hl
  · rw [h27 p _ (by omega), hR _ (by omega)]; exact a6 p hp w hw
  · rw [hC 28 p (by decide), hC 29 p (by decide), hC 30 p (by decide), hR _ (by omega), hR _ (by omega), hR _ (by omega)]; exact a7 p j hp hj
  · rw [hR _ (by omega)]; exact a8 p j hp hj q
  · rw [hC 21 0 (by decide), hC 22 0 (by decide), hC 23 0 (by decide), hC 24 0 (by decide), hC 25 0 (by decide), hC 26 0 (by decide), hR _ (by omega), hR _ (by omega)]; exact a9 i hi
  · rw [h27 p 1 (by omega), h27 p 2 (by omega), h27 p 3 (by omega), h27 p 4 (by omega), h27 p 7 (by omega)]; exact a10 p hp
  · rw [hC 28 p (by decide), hC 29 p (by decide)]; exact a11 p j hp hj
  · rw [h27 0 3 (by omega)]; exact a12 q
/-- all choose -/
theorem S_allLoop {e : Nat} : ∀ (c d m : Nat) (σ ρ : sx_M), d + c = P → 1 ≤ d → pn_T P L v m e σ ρ → pn_Z P σ e (fun p => d ≤ p) →
    ∃ m2 σ2 ρ2, pn_T P L v m2 e σ2 ρ2 ∧ pn_f e σ σ2 ∧ pn_g ρ ρ2 ∧ pn_A P σ2 e ∧ (∀ Q : sx_M → Prop, Q σ2 → ∃ f, wp_En_allChoose_b2 e Q f (nI d) σ) ∧ (∀ Q : sx_M → sx_L → Prop, Q ρ2 θ → ∃ f, wp_Mo_allChoose_b2 Q f (nI d) ρ θ)
  | 0, d, m, σ, ρ, hd, h1, hT, hZ => by
    have h7 := hT.p7
    refine ⟨m, σ, ρ, hT, pn_f.rf, pn_g.rf, fun p p0 pP _ => hZ p p0 pP (by omega), fun Q hQ => ⟨1, ?_⟩, fun Q hQ => ⟨1, ?_⟩⟩
    · rw [wp_En_allChoose_b2, hT.2.1.2.1.1, if_pos (nI_le (by omega) (by omega))]; exact hQ
    · rw [wp_Mo_allChoose_b2, hT.2.1.rP, if_pos (nI_le (by omega) (by omega))]; exact ⟨hT.2.1.live.1, hQ⟩
  | c + 1, d, m, σ, ρ, hd, h1, hT, hZ => by
    have h7 := hT.p7
    have hdP : d < P := by omega
    obtain ⟨m1, σ1, ρ1, T1, f1, g1, q1, z1, wC1, wR1⟩ := S_choose (θ := θ) hT hdP
    have Z1 := hZ.mv f1 q1 (Or.inl (Nat.le_refl d))
    have Z2 : pn_Z P σ1 e (fun p => d + 1 ≤ p) := fun p p0 pP hx pon pr => by
      by_cases c : p = d
      · subst c; exact z1 p0 pon pr
      · exact Z1 p p0 pP (by omega) pon pr
    obtain ⟨m2, σ2, ρ2, T2, f2, g2, A2, wC, wR⟩ := S_allLoop c (d + 1) m1 σ1 ρ1 (by omega) (by omega) T1 Z2
    refine ⟨m2, σ2, ρ2, T2, f1.tr f2, g1.tr g2, A2, fun Q hQ => ?_, fun Q hQ => ?_⟩
    · obtain ⟨f, hf⟩ := wC Q hQ
      refine ⟨f + 1, ?_⟩
      rw [wp_En_allChoose_b2, hT.2.1.2.1.1, if_neg (nI_ge hdP (by omega))]
      exact wC1 _ (by rw [nI_1]; exact hf)
    · obtain ⟨f, hf⟩ := wR Q hQ
      refine ⟨f + 1, ?_⟩
      rw [wp_Mo_allChoose_b2, hT.2.1.rP, if_neg (nI_ge hdP (by omega))]
      exact ⟨hT.2.1.live.1, wR1 _ (by rw [nI_1]; exact hf)⟩
theorem S_all {e : Nat} (hT : pn_T P L v m e σ ρ) :
    ∃ m2 σ2 ρ2, pn_T P L v m2 e σ2 ρ2 ∧ pn_f e σ σ2 ∧ pn_g ρ ρ2 ∧ pn_A P σ2 e ∧ (∀ Q : sx_M → Prop, Q σ2 → wp_En_allChoose e σ Q) ∧ (∀ Q : sx_M → sx_L → Prop, Q ρ2 θ → wp_Mo_allChoose ρ θ Q) := by
  have h7 := hT.p7
  by_cases h0 : P = 0
  · refine ⟨m, σ, ρ, hT, pn_f.rf, pn_g.rf, fun p p0 pP => by omega, fun Q hQ => ⟨1, ?_⟩, fun Q hQ => ⟨1, ?_⟩⟩
    · rw [wp_En_allChoose_b2, hT.2.1.2.1.1, if_pos (show nI P ≤ 0 by rw [h0]; decide)]; exact hQ
    · rw [wp_Mo_allChoose_b2, hT.2.1.rP, if_pos (show nI P ≤ 1 by rw [h0]; decide)]; exact ⟨hT.2.1.live.1, hQ⟩
  · obtain ⟨m2, σ2, ρ2, T2, f2, g2, A2, wC, wR⟩ := S_allLoop (θ := θ) (e := e) (P - 1) 1 m σ ρ (by omega) (Nat.le_refl _) hT (fun p p0 _ hx => absurd p0 (by omega))
    refine ⟨m2, σ2, ρ2, T2, f2, g2, A2, fun Q hQ => ?_, fun Q hQ => wR Q hQ⟩
    obtain ⟨f, hf⟩ := wC Q hQ
    refine ⟨f + 1, ?_⟩
    rw [wp_En_allChoose_b2, hT.2.1.2.1.1, if_neg (show ¬ nI P ≤ 0 from nI_nle (by omega) (by omega))]
    exact C_noop hT (p := 0) (by omega) (fun z => absurd z (by decide)) hf
/-- is it one of N? -/
theorem in_last {N : Nat} (hN : N ≤ 16) {x : Int32} (h0 : ¬ x < 0) : nI N - 1 < x ↔ nI N ≤ x := by
  obtain ⟨a, ha, rfl⟩ := nI_of h0
  by_cases c : N = 0
  · subst c
    have h1 : nI 0 ≤ nI a := nI_le (by omega) ha
    have h2 : nI 0 - 1 < nI a := by
      have : (0 : Int32) ≤ nI a := h1
      exact Int32.lt_of_lt_of_le (show nI 0 - 1 < 0 by decide) this
    exact ⟨fun _ => h1, fun _ => h2⟩
  · rw [show nI N - 1 = nI (N - 1) from pk_sub (b := 1) (by omega), nI_ltI (by omega) ha, nI_leI (by omega) ha]
    omega
theorem C_isPost1 (hP : pn_P P L v σ ρ) {x : Int32} {j : Nat} (hx : x = nI j) (hj : j < P) {Q : Int32 → sx_M → Prop} (h : Q 1 σ) : wp_Pl_isPost 0 x σ Q := by
  have h7 := hP.1.1
  unfold wp_Pl_isPost wp_Pl_isPost_b17
  rw [hx, if_neg (nI_pos (by omega)), hP.2.1.1, if_neg (nI_ge hj (by omega))]
  exact ⟨Or.inr rfl, h⟩
theorem C_isPost0 (hP : pn_P P L v σ ρ) {x : Int32} (hx : x < 0 ∨ nI P ≤ x) {Q : Int32 → sx_M → Prop} (h : Q 0 σ) : wp_Pl_isPost 0 x σ Q := by
  unfold wp_Pl_isPost wp_Pl_isPost_b16 wp_Pl_isPost_b17
  by_cases c : x < 0
  · rw [if_pos c]; exact ⟨Or.inl rfl, h⟩
  · rw [if_neg c, hP.2.1.1, if_pos (hx.resolve_left c)]; exact ⟨Or.inl rfl, h⟩
theorem C_isLink1 (hP : pn_P P L v σ ρ) {x : Int32} {j : Nat} (hx : x = nI j) (hj : j < L) {Q : Int32 → sx_M → Prop} (h : Q 1 σ) : wp_Pl_isLink 0 x σ Q := by
  have h7 := hP.1.2.1
  unfold wp_Pl_isLink wp_Pl_isLink_b17
  rw [hx, if_neg (nI_pos (by omega)), hP.2.1.2.1, if_neg (nI_ge hj (by omega))]
  exact ⟨Or.inr rfl, h⟩
theorem C_isLink0 (hP : pn_P P L v σ ρ) {x : Int32} (hx : x < 0 ∨ nI L ≤ x) {Q : Int32 → sx_M → Prop} (h : Q 0 σ) : wp_Pl_isLink 0 x σ Q := by
  unfold wp_Pl_isLink wp_Pl_isLink_b16 wp_Pl_isLink_b17
  by_cases c : x < 0
  · rw [if_pos c]; exact ⟨Or.inl rfl, h⟩
  · rw [if_neg c, hP.2.1.2.1, if_pos (hx.resolve_left c)]; exact ⟨Or.inl rfl, h⟩
theorem R_in1 {x a b : Int32} (h1 : ¬ x < a) (h2 : ¬ b < x) {Q : Int32 → sx_M → sx_L → Prop} (h : Q 1 ρ θ) : wp_Mo_in x a b ρ θ Q := by
  unfold wp_Mo_in wp_Mo_in_b15
  rw [if_neg h1, if_neg h2]; exact ⟨Or.inr rfl, h⟩
theorem R_in0 {x a b : Int32} (h1 : x < a ∨ b < x) {Q : Int32 → sx_M → sx_L → Prop} (h : Q 0 ρ θ) : wp_Mo_in x a b ρ θ Q := by
  unfold wp_Mo_in wp_Mo_in_b14 wp_Mo_in_b15
  by_cases c : x < a
  · rw [if_pos c]; exact ⟨Or.inl rfl, h⟩
  · rw [if_neg c, if_pos (h1.resolve_left c)]; exact ⟨Or.inl rfl, h⟩
theorem R_isPost1 (hP : pn_P P L v σ ρ) {x : Int32} {j : Nat} (hx : x = nI j) (hj : j < P) {Q : Int32 → sx_M → sx_L → Prop} (h : Q 1 ρ θ) : wp_Mo_isPost x ρ θ Q := by
  have h7 := hP.1.1
  have h0 : ¬ x < 0 := by rw [hx]; exact nI_pos (by omega)
  unfold wp_Mo_isPost
  rw [hP.rP]
  refine ⟨hP.live.1, R_in1 h0 (fun z => ?_) ⟨Or.inr rfl, h⟩⟩
  rw [in_last (by omega) h0, hx] at z
  exact nI_ge hj (by omega) z
theorem R_isPost0 (hP : pn_P P L v σ ρ) {x : Int32} (hx : x < 0 ∨ nI P ≤ x) {Q : Int32 → sx_M → sx_L → Prop} (h : Q 0 ρ θ) : wp_Mo_isPost x ρ θ Q := by
  have h7 := hP.1.1
  unfold wp_Mo_isPost
  rw [hP.rP]
  refine ⟨hP.live.1, R_in0 ?_ ⟨Or.inl rfl, h⟩⟩
  by_cases c : x < 0
  · exact Or.inl c
  · exact Or.inr ((in_last (by omega) c).mpr (hx.resolve_left c))
theorem R_isLink1 (hP : pn_P P L v σ ρ) {x : Int32} {j : Nat} (hx : x = nI j) (hj : j < L) {Q : Int32 → sx_M → sx_L → Prop} (h : Q 1 ρ θ) : wp_Mo_isLink x ρ θ Q := by
  have h7 := hP.1.2.1
  have h0 : ¬ x < 0 := by rw [hx]; exact nI_pos (by omega)
  unfold wp_Mo_isLink
  rw [hP.rL]
  refine ⟨hP.live.1, R_in1 h0 (fun z => ?_) ⟨Or.inr rfl, h⟩⟩
  rw [in_last (by omega) h0, hx] at z
  exact nI_ge hj (by omega) z
theorem R_isLink0 (hP : pn_P P L v σ ρ) {x : Int32} (hx : x < 0 ∨ nI L ≤ x) {Q : Int32 → sx_M → sx_L → Prop} (h : Q 0 ρ θ) : wp_Mo_isLink x ρ θ Q := by
  have h7 := hP.1.2.1
  unfold wp_Mo_isLink
  rw [hP.rL]
  refine ⟨hP.live.1, R_in0 ?_ ⟨Or.inl rfl, h⟩⟩
  by_cases c : x < 0
  · exact Or.inl c
  · exact Or.inr ((in_last (by omega) c).mpr (hx.resolve_left c))
end DO
