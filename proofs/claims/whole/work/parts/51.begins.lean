/-- links as at first, in the class -/
def lkC (σ : sx_M) : Nat → sx_M
  | 0 => σ
  | k + 1 => sx_u (sx_u (lkC σ k) 18 0 0 k 1) 19 0 0 k (σ 11 0 0 k)
theorem lkC_at (σ : sx_M) : ∀ k, (∀ q n p, ¬ ((q = 18 ∨ q = 19) ∧ n = 0 ∧ p = 0) → lkC σ k q n p = σ q n p) ∧ ∀ l, l < k → lkC σ k 18 0 0 l = 1 ∧ lkC σ k 19 0 0 l = σ 11 0 0 l
  | 0 => ⟨fun _ _ _ _ => rfl, fun j h => absurd h (Nat.not_lt_zero j)⟩
  | k + 1 => by
    obtain ⟨a, b⟩ := lkC_at σ k
    refine ⟨fun q n p h => ?_, fun l hl => ?_⟩
    · unfold lkC; rw [sx_u_row _ _ _ _ _ _ (by omega), sx_u_row _ _ _ _ _ _ (by omega)]; exact a q n p h
    · unfold lkC
      by_cases c : l = k
      · subst c; refine ⟨?_, ?_⟩
        · rw [sx_u_row _ _ _ _ _ _ (by omega), sx_u_at, if_pos ⟨rfl, rfl, rfl, rfl⟩]
        · rw [sx_u_at, if_pos ⟨rfl, rfl, rfl, rfl⟩]
      · refine ⟨?_, ?_⟩
        · rw [sx_u_row _ _ _ _ _ _ (by omega), sx_u_at, if_neg (by omega)]; exact (b l (by omega)).1
        · rw [sx_u_at, if_neg (by omega), sx_u_row _ _ _ _ _ _ (by omega)]; exact (b l (by omega)).2
theorem C_lkLoop {L : Nat} (h16 : L ≤ 16) {σ : sx_M} (h8 : σ 8 0 0 1 = nI L) {Q : sx_M → Prop} (h : ∃ f, wp_En_beginAll_b116 0 Q f 0 (lkC σ L)) : ∀ (c d : Nat), d + c = L → ∃ f, wp_En_beginAll_b69 0 Q f (nI d) (lkC σ d)
  | 0, d, hd => by
    have : d = L := by omega
    subst this
    exact ⟨1, by rw [wp_En_beginAll_b69, (lkC_at σ d).1 8 0 0 (by decide), h8, if_pos (nI_le (Nat.le_refl _) (by omega))]; exact h⟩
  | c + 1, d, hd => by
    obtain ⟨f, hh⟩ := C_lkLoop h16 h8 h c (d + 1) (by omega)
    refine ⟨f + 1, ?_⟩
    have i16 : vp_in (nI d) 16 := vp_in_nI (by omega) (by decide)
    rw [wp_En_beginAll_b69, (lkC_at σ d).1 8 0 0 (by decide), h8, if_neg (nI_ge (by omega) (by omega)), nI_clamp (n := d) (by omega), nI_1]
    refine ⟨i16, fun _ q => ?_⟩
    subst q
    refine ⟨i16, i16, fun _ q => ?_⟩
    rw [sx_u_row _ _ _ _ _ _ (show ¬ (11 = 18 ∧ 0 = 0 ∧ 0 = 0) by decide), (lkC_at σ d).1 11 0 0 (by decide)] at q
    subst q
    exact hh
/-- the row, all zeros -/
def zrR (ρ : sx_M) : Nat → sx_M
  | 0 => ρ
  | k + 1 => sx_u (zrR ρ k) 68 0 0 k 0
theorem zrR_at (ρ : sx_M) : ∀ k, (∀ q n p, ¬ (q = 68 ∧ n = 0 ∧ p = 0) → zrR ρ k q n p = ρ q n p) ∧ ∀ l, l < k → zrR ρ k 68 0 0 l = 0
  | 0 => ⟨fun _ _ _ _ => rfl, fun j h => absurd h (Nat.not_lt_zero j)⟩
  | k + 1 => by
    obtain ⟨a, b⟩ := zrR_at ρ k
    refine ⟨fun q n p h => ?_, fun l hl => ?_⟩
    · unfold zrR; rw [sx_u_row _ _ _ _ _ _ h]; exact a q n p h
    · unfold zrR; rw [sx_u_at]
      by_cases c : l = k
      · rw [if_pos ⟨rfl, rfl, rfl, c⟩]
      · rw [if_neg (by omega)]; exact b l (by omega)
def csR (v : Nat) (ρ : sx_M) : Nat → sx_M
  | 0 => ρ
  | k + 1 => sx_u (csR v ρ k) 68 0 0 (10 + k) (ρ 63 0 0 (16 * v + k))
theorem csR_at (v : Nat) (ρ : sx_M) : ∀ k, (∀ q n p, ¬ (q = 68 ∧ n = 0 ∧ p = 0) → csR v ρ k q n p = ρ q n p) ∧ (∀ l, l < k → csR v ρ k 68 0 0 (10 + l) = ρ 63 0 0 (16 * v + l)) ∧ ∀ j, ¬ (10 ≤ j ∧ j < 10 + k) → csR v ρ k 68 0 0 j = ρ 68 0 0 j
  | 0 => ⟨fun _ _ _ _ => rfl, fun j h => absurd h (Nat.not_lt_zero j), fun _ _ => rfl⟩
  | k + 1 => by
    obtain ⟨a, b, c⟩ := csR_at v ρ k
    refine ⟨fun q n p h => ?_, fun l hl => ?_, fun j hj => ?_⟩
    · unfold csR; rw [sx_u_row _ _ _ _ _ _ h]; exact a q n p h
    · unfold csR; rw [sx_u_at]
      by_cases c : l = k
      · subst c; rw [if_pos ⟨rfl, rfl, rfl, rfl⟩]
      · rw [if_neg (by omega)]; exact b l (by omega)
    · unfold csR; rw [sx_u_at, if_neg (by omega)]; exact c j (by omega)
theorem R_csLoop {L v : Nat} (h16 : L ≤ 16) (hv : v < 2) {ρ : sx_M} {θ : sx_L} (h50 : ρ 50 0 0 17 = nI v) (h59 : ρ 59 0 0 v = nI L) {Q : sx_M → sx_L → Prop} (h : ∃ f, wp_Mo_begins_b113 Q f 0 (csR v ρ L) θ) : ∀ (c d : Nat), d + c = L → ∃ f, wp_Mo_begins_b69 Q f (nI d) (csR v ρ d) θ
  | 0, d, hd => by
    have : d = L := by omega
    subst this
    exact ⟨1, by rw [wp_Mo_begins_b69, (csR_at v ρ d).1 50 0 0 (by decide), (csR_at v ρ d).1 59 0 0 (by decide), h50, nI_clamp (n := v) (by omega), h59, if_pos (nI_le (Nat.le_refl _) (by omega))]; exact ⟨vp_in_nI hv (by decide), h⟩⟩
  | c + 1, d, hd => by
    obtain ⟨f, hh⟩ := R_csLoop h16 hv h50 h59 h c (d + 1) (by omega)
    refine ⟨f + 1, ?_⟩
    have e1 : (16 : Int32) * nI v + nI d = nI (16 * v + d) := by rw [show (16 : Int32) * nI v = nI (16 * v) from pk_mul 16 v, nI_add]
    have e2 : (10 : Int32) + nI d = nI (10 + d) := nI_add 10 d
    rw [wp_Mo_begins_b69, (csR_at v ρ d).1 50 0 0 (by decide), (csR_at v ρ d).1 59 0 0 (by decide), (csR_at v ρ d).1 63 0 0 (by decide), h50, nI_clamp (n := v) (by omega), h59, if_neg (nI_ge (by omega) (by omega)), e1, e2, nI_clamp (n := 16 * v + d) (by omega), nI_clamp (n := 10 + d) (by omega), nI_1]
    refine ⟨vp_in_nI hv (by decide), vp_in_nI (by omega) (by decide), vp_in_nI (by omega) (by decide), fun _ q => ?_⟩
    subst q
    exact hh
theorem R_zrLoop {ρ : sx_M} {θ : sx_L} {Q : sx_M → sx_L → Prop} (h : ∀ f, wp_Mo_begins_b2 Q (f + 1) (nI 243) (zrR ρ 243) θ) : ∀ (c d : Nat), d + c = 243 → ∃ f, wp_Mo_begins_b2 Q f (nI d) (zrR ρ d) θ
  | 0, d, hd => by
    have : d = 243 := by omega
    subst this
    exact ⟨1, h 0⟩
  | c + 1, d, hd => by
    obtain ⟨f, hh⟩ := R_zrLoop h c (d + 1) (by omega)
    refine ⟨f + 1, ?_⟩
    rw [wp_Mo_begins_b2, if_neg (show ¬ 243 ≤ nI d from nI_ge (b := 243) (by omega) (by decide)), nI_clamp (n := d) (by omega), nI_1]
    refine ⟨vp_in_nI (by omega) (by decide), fun _ q => ?_⟩
    subst q
    exact hh
theorem ones_I : ∀ l, l < 17 → ((1 : Int32) <<< (nI l &&& 31)) - 1 = nI (2 ^ l - 1) := by decide +kernel
theorem pn_b_one {f : Nat → Int32} : ∀ {n : Nat}, (∀ i, i < n → f i = 1) → pn_b f n = 2 ^ n - 1
  | 0, _ => rfl
  | n + 1, h => by
    unfold pn_b
    rw [pn_b_one (fun i hi => h i (by omega)), if_pos (h n (by omega))]
    have := Nat.two_pow_pos n
    rw [Nat.pow_succ]
    omega
section BEGINS
variable {P L v m n : Nat} {σ σ2 ρ ρ2 : sx_M} {θ : sx_L}
theorem pn_pc.mv {F s t q : Int32} {p : Nat} (h : pn_pc F s t q n p σ) (h27 : σ2 27 n p = σ 27 n p) (h28 : σ2 28 n p = σ 28 n p) (h29 : σ2 29 n p = σ 29 n p) : pn_pc F s t q n p σ2 := by
  unfold pn_pc; rw [h27, h28, h29]; exact h
theorem pn_pr.mv {F s t q : Int32} {p : Nat} (h : pn_pr F s t q p ρ) (hr : ∀ j, pn_ir p j → ρ2 68 0 0 j = ρ 68 0 0 j) : pn_pr F s t q p ρ2 := by
  unfold pn_ir at hr
  obtain ⟨⟨r0, r1, r2, r3, r4, r5, r6, r7, r8, r9⟩, rj⟩ := h
  refine ⟨⟨?_, ?_, ?_, ?_, ?_, ?_, ?_, ?_, ?_, ?_⟩, fun j hj => ?_⟩
  · rw [hr _ (by omega)]; exact r0
  · rw [hr _ (by omega)]; exact r1
  · rw [hr _ (by omega)]; exact r2
  · rw [hr _ (by omega)]; exact r3
  · rw [hr _ (by omega)]; exact r4
  · rw [hr _ (by omega)]; exact r5
  · rw [hr _ (by omega)]; exact r6
  · rw [hr _ (by omega)]; exact r7
  · rw [hr _ (by omega)]; exact r8
  · rw [hr _ (by omega)]; exact r9
  · rw [hr _ (by omega), hr _ (by omega)]; exact rj j hj
theorem C_postLoop {F s t : Int32} : ∀ (c d : Nat) (σ : sx_M), d + c = P → pn_P P L v σ ρ → σ 14 0 0 0 = F → (σ 14 0 0 8) + (σ 31 0 0 3) = s → σ 16 0 0 1 = t →
    ∃ σ2, (∀ q n' p', ¬ ((27 ≤ q ∧ q ≤ 30) ∧ n' = 0 ∧ d ≤ p') → σ2 q n' p' = σ q n' p') ∧ (∀ p, d ≤ p → p < P → pn_pc F s t 0 0 p σ2) ∧ ∀ Q : sx_M → Prop, Q σ2 → ∃ f, wp_En_beginAll_b116 0 Q f (nI d) σ
  | 0, d, σ, hd, hP, hF, hs, ht => by
    have h7 := hP.1.1
    refine ⟨σ, fun _ _ _ _ => rfl, fun p h1 h2 => by omega, fun Q hQ => ⟨1, ?_⟩⟩
    rw [wp_En_beginAll_b116, hP.2.1.1, if_pos (nI_le (by omega) (by omega))]; exact hQ
  | c + 1, d, σ, hd, hP, hF, hs, ht => by
    have h7 := hP.1.1
    obtain ⟨s1, e1⟩ : ∃ z, z = sx_u σ 27 0 d 6 0 := ⟨_, rfl⟩
    have o1 : ∀ q n p, ¬ (q = 27 ∧ n = 0 ∧ p = d) → s1 q n p = σ q n p := fun q n p h => by rw [e1, sx_u_row _ _ _ _ _ _ h]
    have P1 : pn_P P L v s1 ρ := hP.mvA (fun k n p h1 h2 => o1 k n p (by omega)) rfl (fun _ _ _ => rfl)
    obtain ⟨s2, o2, pc, w2⟩ := C_begin (e := 0) P1 (p := d) (by omega)
    rw [o1 14 0 0 (by omega), o1 31 0 0 (by omega), o1 16 0 0 (by omega), hF, hs, ht, show s1 27 0 d 6 = 0 by rw [e1, sx_u_at]; simp] at pc
    have o12 : ∀ q n' p', ¬ ((27 ≤ q ∧ q ≤ 30) ∧ n' = 0 ∧ p' = d) → s2 q n' p' = σ q n' p' := fun q n' p' h => by rw [o2 q n' p' h, o1 q n' p' (by omega)]
    have P2 : pn_P P L v s2 ρ := hP.mvA (fun k n p h1 h2 => o12 k n p (by omega)) rfl (fun _ _ _ => rfl)
    obtain ⟨s3, o3, pc3, w3⟩ := C_postLoop (F := F) (s := s) (t := t) c (d + 1) s2 (by omega) P2 (by rw [o12 14 0 0 (by omega)]; exact hF) (by rw [o12 14 0 0 (by omega), o12 31 0 0 (by omega)]; exact hs) (by rw [o12 16 0 0 (by omega)]; exact ht)
    refine ⟨s3, fun q n' p' h => by rw [o3 q n' p' (by omega), o12 q n' p' (by omega)], fun p h1 h2 => ?_, fun Q hQ => ?_⟩
    · by_cases cc : p = d
      · subst cc
        exact pc.mv (o3 27 0 p (by omega)) (o3 28 0 p (by omega)) (o3 29 0 p (by omega))
      · exact pc3 p (by omega) h2
    · obtain ⟨f, hf⟩ := w3 Q hQ
      refine ⟨f + 1, ?_⟩
      rw [wp_En_beginAll_b116, hP.2.1.1, if_neg (nI_ge (by omega) (by omega)), nI_clamp (n := d) (by omega)]
      refine ⟨vp_in_nI (by omega) (by decide), fun _ q => ?_⟩
      rw [← e1] at q; subst q
      exact w2 _ (by rw [nI_1]; exact hf)
theorem R_postLoop {F s t : Int32} (hF : σ 14 0 0 0 = F) : ∀ (c d : Nat) (ρ : sx_M), d + c = 7 → pn_P P L v σ ρ → (σ 14 0 0 8) + (ρ 50 0 0 31) = s → ρ 68 0 0 0 = t → (∀ p, d ≤ p → p < 7 → ρ 68 0 0 (26 + 10 * p + 5) = 0) →
    ∃ ρ2, (∀ q n' p', ¬ (q = 68 ∧ n' = 0 ∧ p' = 0) → ρ2 q n' p' = ρ q n' p') ∧ (∀ j, (∀ p, d ≤ p → p < 7 → ¬ pn_ir p j) → ρ2 68 0 0 j = ρ 68 0 0 j) ∧ (∀ p, d ≤ p → p < 7 → pn_pr F s t 0 p ρ2) ∧ ∀ Q : sx_M → sx_L → Prop, Q ρ2 θ → ∃ f, wp_Mo_begins_b113 Q f (nI d) ρ θ
  | 0, d, ρ, hd, hP, hs, ht, hz => by
    have : d = 7 := by omega
    subst this
    exact ⟨ρ, fun _ _ _ _ => rfl, fun _ _ => rfl, fun p h1 h2 => by omega, fun Q hQ => ⟨1, by rw [wp_Mo_begins_b113, if_pos (by decide)]; exact hQ⟩⟩
  | c + 1, d, ρ, hd, hP, hs, ht, hz => by
    obtain ⟨ρ1, o1, j1, pr1, w1⟩ := R_first (θ := θ) hP (p := d) (by omega)
    rw [hF, hs, ht, hz d (Nat.le_refl _) (by omega)] at pr1
    have P1 : pn_P P L v σ ρ1 := hP.mvA (fun _ _ _ _ _ => rfl) (by rw [o1 50 0 0 (by decide)]) (fun k h1 h2 => o1 k 0 0 (by omega))
    obtain ⟨ρ2, o2, j2, pr2, w2⟩ := R_postLoop (s := s) (t := t) hF c (d + 1) ρ1 (by omega) P1 (by rw [o1 50 0 0 (by decide)]; exact hs) (by rw [j1 0 (by omega)]; exact ht) (fun p h1 h2 => by rw [j1 _ (by omega)]; exact hz p (by omega) h2)
    refine ⟨ρ2, fun q n' p' h => by rw [o2 q n' p' h, o1 q n' p' h], fun j hj => ?_, fun p h1 h2 => ?_, fun Q hQ => ?_⟩
    · have hdj := hj d (Nat.le_refl _) (by omega)
      rw [j2 j (fun p h1 h2 => hj p (by omega) h2), j1 j hdj]
    · by_cases cc : p = d
      · subst cc
        refine pr1.mv (fun j hj => j2 j (fun p' h1 h2 hh => ?_))
        unfold pn_ir at hj hh
        omega
      · exact pr2 p (by omega) h2
    · obtain ⟨f, hf⟩ := w2 Q hQ
      refine ⟨f + 1, ?_⟩
      rw [wp_Mo_begins_b113, if_neg (show ¬ 7 ≤ nI d from nI_ge (b := 7) (by omega) (by decide))]
      exact w1 _ (by rw [nI_1]; exact hf)
/-- all as at first, on both sides -/
theorem S_begins (hP : pn_P P L v σ ρ) (h31 : σ 31 0 0 3 = 0) :
    ∃ σ2 ρ2, pn_T P L v 0 0 σ2 ρ2 ∧ pn_A P σ2 0 ∧ (∀ k n p, ¬ ((16 ≤ k ∧ k ≤ 30) ∧ n = 0) → σ2 k n p = σ k n p) ∧ (∀ k n p, ¬ (k = 68 ∨ k = 50) → ρ2 k n p = ρ k n p) ∧ (∀ j, ¬ j = 31 → ρ2 50 0 0 j = ρ 50 0 0 j) ∧ ρ2 50 0 0 31 = 0 ∧ (∀ Q : sx_M → Prop, Q σ2 → wp_En_beginAll 0 σ Q) ∧ (∀ Q : sx_M → sx_L → Prop, Q ρ2 θ → wp_Mo_begins ρ θ Q) := by
  have h7 := hP.1.1
  have h16 := hP.1.2.1
  have hv := hP.1.2.2
  -- the class
  obtain ⟨s1, e1⟩ : ∃ z, z = sx_u (sx_u (sx_u (sx_u (sx_u (sx_u (sx_u (sx_u σ 16 0 0 1 0) 16 0 0 2 0) 16 0 0 3 0) 16 0 0 4 0) 16 0 0 5 0) 16 0 0 6 0) 16 0 0 7 0) 20 0 0 0 0 := ⟨_, rfl⟩
  have o1 : ∀ q n p, ¬ ((q = 16 ∨ q = 20) ∧ n = 0 ∧ p = 0) → s1 q n p = σ q n p := fun q n p h => by
    rw [e1]; simp only [sx_u_row _ _ _ _ _ _ (show ¬ (q = 20 ∧ n = 0 ∧ p = 0) by omega), sx_u_row _ _ _ _ _ _ (show ¬ (q = 16 ∧ n = 0 ∧ p = 0) by omega)]
  have z1 : ∀ f, 1 ≤ f → f ≤ 7 → s1 16 0 0 f = 0 := fun f h1 h2 => by
    rw [e1, sx_u_row _ _ _ _ _ _ (by decide)]
    simp only [sx_u_at]
    rcases (show f = 1 ∨ f = 2 ∨ f = 3 ∨ f = 4 ∨ f = 5 ∨ f = 6 ∨ f = 7 by omega) with rfl | rfl | rfl | rfl | rfl | rfl | rfl <;> simp
  have z20 : s1 20 0 0 0 = 0 := by rw [e1, sx_u_at]; simp
  obtain ⟨a2, b2⟩ := lkC_at s1 L
  obtain ⟨s2, e2⟩ : ∃ z, z = lkC s1 L := ⟨_, rfl⟩
  rw [← e2] at a2 b2
  have o2 : ∀ q n p, ¬ ((q = 16 ∨ q = 18 ∨ q = 19 ∨ q = 20) ∧ n = 0 ∧ p = 0) → s2 q n p = σ q n p := fun q n p h => by rw [a2 q n p (by omega), o1 q n p (by omega)]
  have P2 : pn_P P L v s2 ρ := hP.mvA (fun k n p h1 h2 => o2 k n p (by omega)) rfl (fun _ _ _ => rfl)
  obtain ⟨s3, o3, pc3, w3⟩ := C_postLoop (F := σ 14 0 0 0) (s := σ 14 0 0 8) (t := 0) P 0 s2 (by omega) P2 (by rw [o2 14 0 0 (by decide)]) (by rw [o2 14 0 0 (by decide), o2 31 0 0 (by decide), h31, Int32.add_zero]) (by rw [a2 16 0 0 (by decide)]; exact z1 1 (by decide) (by decide))
  -- the reference
  obtain ⟨ra, rb⟩ := zrR_at ρ 243
  obtain ⟨r1, f1⟩ : ∃ z, z = zrR ρ 243 := ⟨_, rfl⟩
  rw [← f1] at ra rb
  obtain ⟨r2, f2⟩ : ∃ z, z = sx_u r1 50 0 0 31 0 := ⟨_, rfl⟩
  obtain ⟨r3, f3⟩ : ∃ z, z = sx_u r2 68 0 0 8 (nI (2 ^ L - 1)) := ⟨_, rfl⟩
  obtain ⟨r4, f4⟩ : ∃ z, z = sx_u r3 68 0 0 9 (nI (2 ^ P - 1)) := ⟨_, rfl⟩
  have q2 : ∀ k n p, ¬ (k = 68 ∨ k = 50) → r2 k n p = ρ k n p := fun k n p h => by rw [f2, sx_u_row _ _ _ _ _ _ (by omega), ra k n p (by omega)]
  have q25 : ∀ j, ¬ j = 31 → r2 50 0 0 j = ρ 50 0 0 j := fun j h => by rw [f2, sx_u_at, if_neg (by omega), ra 50 0 0 (by decide)]
  have q3 : ∀ k n p, ¬ k = 68 → r3 k n p = r2 k n p := fun k n p h => by rw [f3, sx_u_row _ _ _ _ _ _ (by omega)]
  have q4 : ∀ k n p, ¬ k = 68 → r4 k n p = r2 k n p := fun k n p h => by rw [f4, sx_u_row _ _ _ _ _ _ (by omega), q3 k n p h]
  have q5 : r2 50 0 0 31 = 0 := by rw [f2, sx_u_at]; simp
  have v8 : r4 68 0 0 8 = nI (2 ^ L - 1) := by rw [f4, sx_u_at, if_neg (by decide), f3, sx_u_at]; simp
  have v9 : r4 68 0 0 9 = nI (2 ^ P - 1) := by rw [f4, sx_u_at]; simp
  have vz : ∀ j, j < 243 → ¬ j = 8 → ¬ j = 9 → r4 68 0 0 j = 0 := fun j h1 h2 h3 => by rw [f4, sx_u_at, if_neg (by omega), f3, sx_u_at, if_neg (by omega), f2, sx_u_row _ _ _ _ _ _ (by omega)]; exact rb j h1
  have P4 : pn_P P L v σ r4 := hP.mvA (fun _ _ _ _ _ => rfl) (by rw [q4 50 0 0 (by decide), q25 17 (by decide)]) (fun k h1 h2 => by rw [q4 k 0 0 (by omega), q2 k 0 0 (by omega)])
  obtain ⟨ca, cb, cc⟩ := csR_at v r4 L
  obtain ⟨r5, f5⟩ : ∃ z, z = csR v r4 L := ⟨_, rfl⟩
  rw [← f5] at ca cb cc
  have P5 : pn_P P L v σ r5 := P4.mvA (fun _ _ _ _ _ => rfl) (by rw [ca 50 0 0 (by decide)]) (fun k h1 h2 => ca k 0 0 (by omega))
  have s5 : r5 50 0 0 31 = 0 := by rw [ca 50 0 0 (by decide), q4 50 0 0 (by decide)]; exact q5
  obtain ⟨r6, o6, j6, pr6, w6⟩ := R_postLoop (θ := θ) (F := σ 14 0 0 0) (s := σ 14 0 0 8) (t := 0) rfl 7 0 r5 rfl P5 (by rw [s5, Int32.add_zero]) (by rw [cc 0 (by omega)]; exact vz 0 (by decide) (by decide) (by decide)) (fun p h1 h2 => by rw [cc _ (by omega)]; exact vz _ (by omega) (by omega) (by omega))
  have lo : ∀ j, j < 26 → r6 68 0 0 j = r5 68 0 0 j := fun j hj => j6 j (fun p _ _ => by unfold pn_ir; omega)
  have cr : ∀ p, p < P → _ := fun p hp => pn_pcr (pc3 p (Nat.zero_le _) hp) (pr6 p (Nat.zero_le _) (by omega))
  have k3 : ∀ q p, 16 ≤ q → q ≤ 26 → s3 q 0 p = s2 q 0 p := fun q p h1 h2 => o3 q 0 p (by omega)
  have N6 : pn_N P L 0 s3 0 r6 68 0 := by
    refine ⟨⟨h7, h16⟩, fun f hf => ?_, ⟨by omega, ?_, ?_⟩, ⟨fun l hl => ?_, ?_⟩, ⟨fun p hp => ?_, ?_⟩, fun l hl => ?_, fun p hp w hw => ?_, fun p j hp hj => ?_, fun p j hp hj q => ?_, fun i hi => absurd hi (Nat.not_lt_zero i), fun p hp => ?_, fun p j hp hj => ?_, fun q => ?_⟩
    · rw [lo _ (by omega), cc _ (by omega), vz _ (by omega) (by omega) (by omega), k3 16 0 (by decide) (by decide), a2 16 0 0 (by decide), z1 (f + 1) (by omega) (by omega)]
    · rw [lo _ (by omega), cc _ (by omega), vz _ (by omega) (by omega) (by omega)]; rfl
    · rw [k3 20 0 (by decide) (by decide), a2 20 0 0 (by decide), z20]; rfl
    · rw [k3 18 0 (by decide) (by decide), (b2 l hl).1]; exact Or.inr rfl
    · rw [lo _ (by omega), cc _ (by omega), show (0 + 8) = 8 from rfl, v8, pn_b_one (fun l hl => by rw [k3 18 0 (by decide) (by decide), (b2 l hl).1])]
    · rw [(pc3 p (Nat.zero_le _) hp).1.1]; exact Or.inr rfl
    · rw [lo _ (by omega), cc _ (by omega), show (0 + 9) = 9 from rfl, v9, pn_b_one (fun p hp => (pc3 p (Nat.zero_le _) hp).1.1)]
    · have hl2 := hP.2.2.2.2.2.2.2 l hl
      have e11 : s1 11 0 0 = σ 11 0 0 := o1 11 0 0 (by decide)
      rw [Nat.zero_add, lo _ (by omega), cb l hl, q4 63 0 0 (by decide), q2 63 0 0 (by decide), k3 19 0 (by decide) (by decide), (b2 l hl).2, e11]
      exact ⟨hl2.2.2.1, hl2.2.2.2.1⟩
    · rw [Nat.zero_add]; exact (cr p hp).1 w hw
    · rw [Nat.zero_add, Nat.zero_add]
      exact ⟨((cr p hp).2 j (by omega)).1, ((cr p hp).2 j (by omega)).2, fun z => absurd ((pc3 p (Nat.zero_le _) hp).2 j (by omega)).2 z⟩
    · rw [Nat.zero_add]; exact ((pr6 p (Nat.zero_le _) hp).2 j hj).2
    · exact pn_pcv hP.F (pc3 p (Nat.zero_le _) hp)
    · have := (pc3 p (Nat.zero_le _) hp).2 j (by omega)
      rw [this.1, this.2]; exact ⟨⟨9999, by decide, rfl⟩, Or.inl rfl⟩
    · exact (pc3 0 (Nat.zero_le _) q).1.2.2.2.1
  have P6 : pn_P P L v s3 r6 := P5.mvA (fun k n p h1 h2 => by rw [o3 k n p (by omega), o2 k n p (by omega)]) (by rw [o6 50 0 0 (by decide)]) (fun k h1 h2 => o6 k 0 0 (by omega))
  have e50 : r6 50 0 0 = r2 50 0 0 := by rw [o6 50 0 0 (by decide), ca 50 0 0 (by decide), q4 50 0 0 (by decide)]
  have A6 : pn_A P s3 0 := by
    intro p p0 pP _ pon pr
    obtain ⟨⟨c0, c1, c2, c3, c4, c5, c6, c7, c8, c9, c10⟩, cj⟩ := pc3 p (Nat.zero_le _) pP
    have of : ∀ k, k < P → pn_of s3 0 p k = 1000000 := fun k hk => by
      unfold pn_of
      rw [(cj k (by omega)).1, if_pos (by decide)]
    have bo : ∀ k, k ≤ P → pn_bo s3 0 p (-2) k = (-2, 1000000) := by
      intro k
      induction k with
      | zero => intro _; rfl
      | succ k ih =>
        intro hk
        unfold pn_bo
        rw [ih (by omega), of k (by omega)]
        have : (1000000 : Int32) ≤ (if nI k = -2 then 1000000 else 1000000) := by split <;> decide
        rw [if_pos this]
    have hc : pn_c s3 0 p P = -2 := by
      unfold pn_c pn_kp
      rw [bo P (Nat.le_refl _), if_pos c3, if_pos rfl]
    refine ⟨by rw [hc, c3], Or.inl ⟨hc, ?_⟩⟩
    rw [c2, if_neg (by omega)]
  refine ⟨s3, r6, ⟨by decide, P6, N6, ?_⟩, A6, fun k n p h => by rw [o3 k n p (by omega), o2 k n p (by omega)], fun k n p h => by rw [o6 k n p (by omega), ca k n p (by omega), q4 k n p (by omega), q2 k n p h], fun j hj => by rw [e50]; exact q25 j hj, by rw [e50]; exact q5, fun Q hQ => ?_, fun Q hQ => ?_⟩
  · rw [o3 31 0 0 (by omega), o2 31 0 0 (by decide), h31, e50, q5]
  · unfold wp_En_beginAll
    intro _ q; subst q
    intro _ q; subst q
    intro _ q; subst q
    intro _ q; subst q
    intro _ q; subst q
    intro _ q; subst q
    intro _ q; subst q
    intro _ q
    rw [← e1] at q; subst q
    refine C_lkLoop h16 (by rw [o1 8 0 0 (by decide)]; exact hP.2.1.2.1) ?_ L 0 (by omega)
    rw [← e2]
    exact w3 Q hQ
  · unfold wp_Mo_begins
    refine R_zrLoop (fun f => ?_) 243 0 rfl
    rw [wp_Mo_begins_b2, if_pos (by decide), ← f1]
    have c17 : r2 50 0 0 17 = nI v := by rw [q25 17 (by decide)]; exact hP.2.1.2.2.1
    have c59 : r2 59 0 0 v = nI L := by rw [q2 59 0 0 (by decide)]; exact hP.2.1.2.2.2.2
    have c58 : r3 58 0 0 v = nI P := by rw [q3 58 0 0 (by decide), q2 58 0 0 (by decide)]; exact hP.2.1.2.2.2.1
    have d17 : r3 50 0 0 17 = nI v := by rw [q3 50 0 0 (by decide)]; exact c17
    have iv : vp_in (nI v) 2 := vp_in_nI hv (by decide)
    have cv : (nI v).toNatClampNeg = v := nI_clamp (by omega)
    intro _ q
    rw [← f2] at q; subst q
    rw [c17, cv, c59, ones_I L (by omega)]
    refine ⟨iv, in_I (n := 8) rfl (by decide) (by decide), fun _ q => ?_⟩
    have q' : _ = r3 := q.trans f3.symm
    subst q'
    rw [d17, cv, c58, ones_I P (by omega)]
    refine ⟨iv, in_I (n := 9) rfl (by decide) (by decide), fun _ q => ?_⟩
    have q' : _ = r4 := q.trans f4.symm
    subst q'
    refine R_csLoop h16 hv P4.2.1.2.2.1 P4.2.1.2.2.2.2 ?_ L 0 (by omega)
    rw [← f5]
    exact w6 Q hQ
end BEGINS
