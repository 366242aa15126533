/-- what tells of a net is untouched -/
def pn_s (n : Nat) (σ σ2 : sx_M) : Prop := ∀ k p, 16 ≤ k → k ≤ 30 → σ2 k n p = σ k n p
section ALL
variable {P L v m n k b : Nat} {σ σ2 ρ ρ2 : sx_M} {θ : sx_L}
theorem pn_N.mv (h : pn_N P L m σ n ρ k b) (hs : pn_s n σ σ2) (hr : ρ2 k 0 0 = ρ k 0 0) : pn_N P L m σ2 n ρ2 k b :=
  (h.cC (σ2 := σ2) (n2 := n) (fun f _ _ => by rw [hs 16 0 (by omega) (by omega)]) (fun q l hq _ => by rw [hs q 0 (by omega) (by omega)]) (fun p j _ _ => by rw [hs 27 p (by omega) (by omega)]) (fun q p j hq _ _ => by rw [hs q p (by omega) (by omega)]) (by rw [hs 20 0 (by omega) (by omega)]; exact h.2.2.1.2.2) (fun q i hq _ => by rw [hs q 0 (by omega) (by omega)])).cR (fun j _ => by rw [hr])
theorem pn_A.mv (h : pn_A P σ n) (hs : pn_s n σ σ2) (hf : ∀ k n p, k < 16 → σ2 k n p = σ k n p) : pn_A P σ2 n := by
  intro p p0 pP pX pon pr
  rw [hs 27 p (by omega) (by omega)] at pon pr
  exact pn_zz_c (fun k => pn_of_c hf (fun q p' hq => hs q p' (by omega) (by omega)) (fun p' => by rw [hs 27 p' (by omega) (by omega)]) p k) (fun j _ _ => by rw [hs 27 p (by omega) (by omega)]) (fun j => by rw [hf 14 0 0 (by decide)]) (h p p0 pP pX pon pr)
theorem pn_P.mvA (h : pn_P P L v σ ρ) (hf : ∀ k n p, 8 ≤ k → k < 16 → σ2 k n p = σ k n p) (h50 : ρ2 50 0 0 17 = ρ 50 0 0 17) (hg : ∀ k, 58 ≤ k → k ≤ 66 → ρ2 k 0 0 = ρ k 0 0) : pn_P P L v σ2 ρ2 := by
  unfold pn_P
  simp only [hf 8 _ _ (by decide) (by decide), hf 9 _ _ (by decide) (by decide), hf 10 _ _ (by decide) (by decide), hf 11 _ _ (by decide) (by decide), hf 13 _ _ (by decide) (by decide), hf 14 _ _ (by decide) (by decide), h50, hg 58 (by decide) (by decide), hg 59 (by decide) (by decide), hg 61 (by decide) (by decide), hg 62 (by decide) (by decide), hg 63 (by decide) (by decide), hg 64 (by decide) (by decide), hg 65 (by decide) (by decide), hg 66 (by decide) (by decide)]
  exact h
/-- the tape -/
def pn_tp (σ ρ : sx_M) : Prop := (∃ t, t ≤ 2000 ∧ σ 1 0 0 1 = nI t ∧ ρ 50 0 0 2 = nI t ∧ ∀ i, i < t → σ 2 0 0 i = ρ 51 0 0 i) ∧ σ 3 0 0 4 = ρ 50 0 0 16
/-- what can be undone -/
def pn_U (P L : Nat) (σ ρ : sx_M) : Prop := ∃ u pe er, u ≤ 20 ∧ pe < 20 ∧ er < 20 ∧ σ 0 0 0 11 = nI u ∧ ρ 50 0 0 37 = nI u ∧ σ 0 0 0 10 = nI pe ∧ ρ 50 0 0 36 = nI er ∧ ∀ j, j < u → ∃ m, pn_N P L m σ (2 + (pe + 20 - u + j) % 20) ρ 71 (643 * ((er + j) % 20)) ∧ pn_A P σ (2 + (pe + 20 - u + j) % 20)
/-- what is held -/
def pn_H (P L : Nat) (σ ρ : sx_M) : Prop := ∀ s, s < 3 → pn_z (σ 39 0 0 s) ∧ ρ 73 0 0 s = σ 39 0 0 s ∧ (σ 39 0 0 s = 1 → ∃ m, pn_N P L m σ (22 + s) ρ 72 (643 * s) ∧ pn_A P σ (22 + s))
/-- the words' numbers -/
def pn_ky : List Int64 := [326396, 243146, 3379448, 11088176, 79495460, 847604, 361373, 358472, 3547106, 7742498, 377761, 148755, 168850, 1903978]
/-- all but what stands -/
def pn_W (P L : Nat) (σ ρ : sx_M) (θ : sx_L) : Prop := pn_tp σ ρ ∧ pn_U P L σ ρ ∧ pn_H P L σ ρ ∧ (σ 31 0 0 3 = 0 ∧ σ 31 1 0 3 = 0 ∧ ρ 50 0 0 31 = 0) ∧ ∀ i, i < 14 → θ 57 i = pn_ky.getD i 0
/-- class and reference -/
def pn_I (σ ρ : sx_M) (θ : sx_L) : Prop := ∃ P L v m, pn_P P L v σ ρ ∧ pn_N P L m σ 0 ρ 67 0 ∧ pn_A P σ 0 ∧ pn_W P L σ ρ θ
theorem pn_U.mw (h : pn_U P L σ ρ) (hs : ∀ i, i < 20 → pn_s (2 + i) σ σ2) (hf : ∀ k n p, 8 ≤ k → k < 16 → σ2 k n p = σ k n p) (h0 : ∀ j, j = 10 ∨ j = 11 → σ2 0 0 0 j = σ 0 0 0 j) (h5 : ∀ j, j = 36 ∨ j = 37 → ρ2 50 0 0 j = ρ 50 0 0 j) (h71 : ρ2 71 0 0 = ρ 71 0 0) : pn_U P L σ2 ρ2 := by
  obtain ⟨u, pe, er, a1, a2, a3, a4, a5, a6, a7, a8⟩ := h
  refine ⟨u, pe, er, a1, a2, a3, by rw [h0 11 (by simp)]; exact a4, by rw [h5 37 (by simp)]; exact a5, by rw [h0 10 (by simp)]; exact a6, by rw [h5 36 (by simp)]; exact a7, fun j hj => ?_⟩
  obtain ⟨m, b1, b2⟩ := a8 j hj
  have hi : (pe + 20 - u + j) % 20 < 20 := Nat.mod_lt _ (by decide)
  refine ⟨m, b1.mv (hs _ hi) h71, ?_⟩
  intro p p0 pP pX pon pr
  rw [hs _ hi 27 p (by omega) (by omega)] at pon pr
  have h13 : ∀ k n p, k = 8 ∨ k = 13 ∨ k = 14 → σ2 k n p = σ k n p := fun k n p hk => hf k n p (by omega) (by omega)
  refine pn_zz_c (fun k => ?_) (fun j _ _ => by rw [hs _ hi 27 p (by omega) (by omega)]) (fun j => by rw [h13 14 0 0 (by simp)]) (b2 p p0 pP pX pon pr)
  unfold pn_of pn_nb pn_st
  rw [h13 13 0 p (by simp), h13 8 0 0 (by simp), hs _ hi 18 0 (by omega) (by omega), hs _ hi 19 0 (by omega) (by omega), hs _ hi 28 p (by omega) (by omega), hs _ hi 27 p (by omega) (by omega), hs _ hi 27 k (by omega) (by omega)]
theorem pn_U.mv (h : pn_U P L σ ρ) (hs : ∀ i, i < 20 → pn_s (2 + i) σ σ2) (hf : ∀ k n p, k < 16 → 0 < k → σ2 k n p = σ k n p) (h0 : ∀ j, j = 10 ∨ j = 11 → σ2 0 0 0 j = σ 0 0 0 j) (h5 : ∀ j, j = 36 ∨ j = 37 → ρ2 50 0 0 j = ρ 50 0 0 j) (h71 : ρ2 71 0 0 = ρ 71 0 0) : pn_U P L σ2 ρ2 := h.mw hs (fun k n p h1 h2 => hf k n p h2 (by omega)) h0 h5 h71
theorem pn_A.mw8 (h : pn_A P σ n) (hs : pn_s n σ σ2) (hf : ∀ k n p, 8 ≤ k → k < 16 → σ2 k n p = σ k n p) : pn_A P σ2 n := by
  intro p p0 pP pX pon pr
  rw [hs 27 p (by omega) (by omega)] at pon pr
  have h13 : ∀ k n p, k = 8 ∨ k = 13 ∨ k = 14 → σ2 k n p = σ k n p := fun k n p hk => hf k n p (by omega) (by omega)
  refine pn_zz_c (fun k => ?_) (fun j _ _ => by rw [hs 27 p (by omega) (by omega)]) (fun j => by rw [h13 14 0 0 (by simp)]) (h p p0 pP pX pon pr)
  unfold pn_of pn_nb pn_st
  rw [h13 13 0 p (by simp), h13 8 0 0 (by simp), hs 18 0 (by omega) (by omega), hs 19 0 (by omega) (by omega), hs 28 p (by omega) (by omega), hs 27 p (by omega) (by omega), hs 27 k (by omega) (by omega)]
theorem pn_A.mv8 (h : pn_A P σ n) (hs : pn_s n σ σ2) (hf : ∀ k n p, k < 16 → 0 < k → σ2 k n p = σ k n p) : pn_A P σ2 n := h.mw8 hs (fun k n p h1 h2 => hf k n p h2 (by omega))
theorem pn_H.mw (h : pn_H P L σ ρ) (hs : ∀ i, i < 3 → pn_s (22 + i) σ σ2) (hf : ∀ k n p, 8 ≤ k → k < 16 → σ2 k n p = σ k n p) (h39 : σ2 39 0 0 = σ 39 0 0) (h72 : ρ2 72 0 0 = ρ 72 0 0) (h73 : ρ2 73 0 0 = ρ 73 0 0) : pn_H P L σ2 ρ2 := by
  intro s hs3
  obtain ⟨a, b, c⟩ := h s hs3
  rw [h39, h73]
  refine ⟨a, b, fun z => ?_⟩
  obtain ⟨m, d, e⟩ := c z
  exact ⟨m, d.mv (hs s hs3) h72, e.mw8 (hs s hs3) hf⟩
theorem pn_H.mv (h : pn_H P L σ ρ) (hs : ∀ i, i < 3 → pn_s (22 + i) σ σ2) (hf : ∀ k n p, k < 16 → 0 < k → σ2 k n p = σ k n p) (h39 : σ2 39 0 0 = σ 39 0 0) (h72 : ρ2 72 0 0 = ρ 72 0 0) (h73 : ρ2 73 0 0 = ρ 73 0 0) : pn_H P L σ2 ρ2 := h.mw hs (fun k n p h1 h2 => hf k n p h2 (by omega)) h39 h72 h73
/-- what a tick's methods do, it leaves the rest alone -/
theorem pn_W.mvF (h : pn_W P L σ ρ θ) (hf : ∀ k n p, ¬ ((16 ≤ k ∧ k ≤ 30) ∧ (n = 0 ∨ n = 25)) → σ2 k n p = σ k n p) (hg : pn_G ρ ρ2) : pn_W P L σ2 ρ2 θ := by
  obtain ⟨⟨⟨t, t1, t2, t3, t4⟩, t5⟩, hU, hH, ⟨s1, s2, s3⟩, ky⟩ := h
  have g : ∀ k, k < 68 ∨ 69 < k → ρ2 k 0 0 = ρ k 0 0 := fun k hk => hg k 0 0 (by omega)
  have c : ∀ k n p, k < 16 → σ2 k n p = σ k n p := fun k n p hk => hf k n p (by omega)
  refine ⟨⟨⟨t, t1, by rw [c 1 0 0 (by decide)]; exact t2, by rw [g 50 (by decide)]; exact t3, fun i hi => by rw [c 2 0 0 (by decide), g 51 (by decide)]; exact t4 i hi⟩, by rw [c 3 0 0 (by decide), g 50 (by decide)]; exact t5⟩, ?_, ?_, ⟨?_, ?_, ?_⟩, ky⟩
  · exact hU.mv (fun i hi k p _ _ => hf k (2 + i) p (by omega)) (fun k n p h _ => c k n p h) (fun j _ => by rw [c 0 0 0 (by decide)]) (fun j _ => by rw [g 50 (by decide)]) (g 71 (by decide))
  · exact hH.mv (fun i hi k p _ _ => hf k (22 + i) p (by omega)) (fun k n p h _ => c k n p h) (hf 39 0 0 (by omega)) (g 72 (by decide)) (g 73 (by decide))
  · rw [hf 31 0 0 (by omega)]; exact s1
  · rw [hf 31 1 0 (by omega)]; exact s2
  · rw [g 50 (by decide)]; exact s3
/-- a look: what the class may touch, and the reference -/
def pn_qc (σ σ2 : sx_M) : Prop := ∀ k n p, ¬ (((16 ≤ k ∧ k ≤ 30) ∧ (n = 1 ∨ n = 25 ∨ n = 26)) ∨ (32 ≤ k ∧ k ≤ 36)) → σ2 k n p = σ k n p
def pn_qr (ρ ρ2 : sx_M) : Prop := (∀ k, ¬ (k = 50 ∨ k = 68 ∨ k = 69 ∨ k = 70 ∨ k = 74) → ρ2 k 0 0 = ρ k 0 0) ∧ (∀ j, ¬ (j = 31 ∨ j = 33 ∨ j = 34) → ρ2 50 0 0 j = ρ 50 0 0 j) ∧ ρ2 50 0 0 31 = 0
theorem pn_qc.rf : pn_qc σ σ := fun _ _ _ _ => rfl
theorem pn_qc.tr {a b c : sx_M} (h : pn_qc a b) (h2 : pn_qc b c) : pn_qc a c := fun k n p q => (h2 k n p q).trans (h k n p q)
theorem pn_qr.rf (h : ρ 50 0 0 31 = 0) : pn_qr ρ ρ := ⟨fun _ _ => rfl, fun _ _ => rfl, h⟩
theorem pn_qr.tr {a b c : sx_M} (h : pn_qr a b) (h2 : pn_qr b c) : pn_qr a c := ⟨fun k q => (h2.1 k q).trans (h.1 k q), fun j q => (h2.2.1 j q).trans (h.2.1 j q), h2.2.2⟩
theorem pn_W.look (h : pn_W P L σ ρ θ) (hf : pn_qc σ σ2) (hg : pn_qr ρ ρ2) : pn_W P L σ2 ρ2 θ := by
  obtain ⟨⟨⟨t, t1, t2, t3, t4⟩, t5⟩, hU, hH, ⟨s1, s2, s3⟩, ky⟩ := h
  obtain ⟨g, g5, g6⟩ := hg
  have c : ∀ k n p, k < 16 → σ2 k n p = σ k n p := fun k n p hk => hf k n p (by omega)
  refine ⟨⟨⟨t, t1, by rw [c 1 0 0 (by decide)]; exact t2, by rw [g5 2 (by decide)]; exact t3, fun i hi => by rw [c 2 0 0 (by decide), g 51 (by decide)]; exact t4 i hi⟩, by rw [c 3 0 0 (by decide), g5 16 (by decide)]; exact t5⟩, ?_, ?_, ⟨?_, ?_, g6⟩, ky⟩
  · exact hU.mv (fun i hi k p _ _ => hf k (2 + i) p (by omega)) (fun k n p h _ => c k n p h) (fun j _ => by rw [c 0 0 0 (by decide)]) (fun j hj => g5 j (by omega)) (g 71 (by decide))
  · exact hH.mv (fun i hi k p _ _ => hf k (22 + i) p (by omega)) (fun k n p h _ => c k n p h) (hf 39 0 0 (by omega)) (g 72 (by decide)) (g 73 (by decide))
  · rw [hf 31 0 0 (by omega)]; exact s1
  · rw [hf 31 1 0 (by omega)]; exact s2
theorem pn_P.look (h : pn_P P L v σ ρ) (hf : pn_qc σ σ2) (hg : pn_qr ρ ρ2) : pn_P P L v σ2 ρ2 := h.mvA (fun k n p _ hk => hf k n p (by omega)) (hg.2.1 17 (by decide)) (fun k h1 h2 => hg.1 k (by omega))
theorem pn_N.look (h : pn_N P L m σ 0 ρ 67 0) (hf : pn_qc σ σ2) (hg : pn_qr ρ ρ2) : pn_N P L m σ2 0 ρ2 67 0 := h.mv (fun k p _ _ => hf k 0 p (by omega)) (hg.1 67 (by decide))
theorem pn_A.look (h : pn_A P σ 0) (hf : pn_qc σ σ2) : pn_A P σ2 0 := h.mv (fun k p _ _ => hf k 0 p (by omega)) (fun k n p hk => hf k n p (by omega))
theorem pn_I.look (h : pn_I σ ρ θ) (hf : pn_qc σ σ2) (hg : pn_qr ρ ρ2) : pn_I σ2 ρ2 θ := by
  obtain ⟨P, L, v, m, a, b, c, d⟩ := h
  exact ⟨P, L, v, m, a.look hf hg, b.look hf hg, c.look hf, d.look hf hg⟩
/-- the row is what stands -/
theorem R_copies (hP : pn_P P L v σ ρ) (hN : pn_N P L m σ 0 ρ 67 0) (hW : pn_W P L σ ρ θ) :
    ∃ ρ2, pn_T P L v m 0 σ ρ2 ∧ pn_qr ρ ρ2 ∧ ∀ Q : sx_M → sx_L → Prop, Q ρ2 θ → wp_Mo_copies ρ θ Q := by
  obtain ⟨hm, hmr, hmc⟩ := hN.2.2.1
  obtain ⟨ρ1, a1, a2, a3, w⟩ := R_now_row (ρ := ρ) (θ := θ) (bf := 0) (bt := 0) (m := m) rfl rfl hm hmr (by decide) (by decide)
  obtain ⟨ρ2, e2⟩ : ∃ x, x = sx_u ρ1 50 0 0 31 0 := ⟨_, rfl⟩
  have o2 : ∀ k n p, ¬ k = 50 → ρ2 k n p = ρ1 k n p := fun k n p h => by rw [e2, sx_u_row _ _ _ _ _ _ (by omega)]
  have o5 : ∀ j, ¬ j = 31 → ρ2 50 0 0 j = ρ 50 0 0 j := fun j h => by rw [e2, sx_u_at, if_neg (by omega), a1 50 0 0 (by decide)]
  have q : pn_qr ρ ρ2 := ⟨fun k h => by rw [o2 k 0 0 (by omega), a1 k 0 0 (by omega)], fun j h => o5 j (by omega), by rw [e2, sx_u_at]; simp⟩
  have N2 : pn_N P L m σ 0 ρ2 68 0 := hN.cR (fun j hj => by rw [o2 68 0 0 (by decide)]; exact a2 j hj)
  refine ⟨ρ2, ⟨by decide, hP.look pn_qc.rf q, N2, ?_⟩, q, fun Q hQ => ?_⟩
  · rw [q.2.2]; exact hW.2.2.2.1.1
  · unfold wp_Mo_copies
    refine w _ (fun _ z => ?_)
    rw [← e2] at z
    subst z
    exact hQ
/-- what was done stands -/
theorem R_keepsRow (hT : pn_T P L v m 0 σ ρ) (hA : pn_A P σ 0) (hW : pn_W P L σ ρ θ) :
    ∃ ρ2, pn_I σ ρ2 θ ∧ pn_N P L m σ 0 ρ2 67 0 ∧ pn_N P L m σ 0 ρ2 68 0 ∧ ∀ Q : sx_M → sx_L → Prop, Q ρ2 θ → wp_Mo_keepsRow ρ θ Q := by
  obtain ⟨-, hP, hN, hs⟩ := hT
  obtain ⟨hm, hmr, hmc⟩ := hN.2.2.1
  obtain ⟨ρ2, a1, a2, a3, w⟩ := R_row_now (ρ := ρ) (θ := θ) (bf := 0) (bt := 0) (m := m) rfl rfl hm hmr (by decide) (by decide)
  have g : ∀ k, ¬ k = 67 → ρ2 k 0 0 = ρ k 0 0 := fun k h => a1 k 0 0 (by omega)
  have N2 : pn_N P L m σ 0 ρ2 67 0 := hN.cR (fun j hj => a2 j hj)
  have N3 : pn_N P L m σ 0 ρ2 68 0 := hN.mv (fun _ _ _ _ => rfl) (g 68 (by decide))
  obtain ⟨⟨⟨t, t1, t2, t3, t4⟩, t5⟩, hU, hH, ⟨s1, s2, s3⟩, ky⟩ := hW
  have W2 : pn_W P L σ ρ2 θ := by
    refine ⟨⟨⟨t, t1, t2, by rw [g 50 (by decide)]; exact t3, fun i hi => by rw [g 51 (by decide)]; exact t4 i hi⟩, by rw [g 50 (by decide)]; exact t5⟩, ?_, ?_, ⟨s1, s2, by rw [g 50 (by decide)]; exact s3⟩, ky⟩
    · exact hU.mv (fun _ _ _ _ _ _ => rfl) (fun _ _ _ _ _ => rfl) (fun _ _ => rfl) (fun j _ => by rw [g 50 (by decide)]) (g 71 (by decide))
    · exact hH.mv (fun _ _ _ _ _ _ => rfl) (fun _ _ _ _ _ => rfl) rfl (g 72 (by decide)) (g 73 (by decide))
  refine ⟨ρ2, ⟨P, L, v, m, hP.mvA (fun _ _ _ _ _ => rfl) (by rw [g 50 (by decide)]) (fun k h1 h2 => g k (by omega)), N2, hA, W2⟩, N2, N3, fun Q hQ => ?_⟩
  unfold wp_Mo_keepsRow
  exact w _ hQ
end ALL
