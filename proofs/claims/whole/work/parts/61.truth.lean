theorem sub_I {a b c d : Int32} (h : a + d = c + b) : a - b = c - d := by
  have : a = c + b - d := by rw [← h, Int32.add_sub_cancel]
  rw [this, Int32.sub_eq_add_neg, Int32.sub_eq_add_neg, Int32.sub_eq_add_neg, Int32.add_assoc, Int32.add_assoc, Int32.add_comm b, Int32.add_assoc, Int32.add_left_neg, Int32.add_zero]
/-- how many of them -/
def cN (g : Nat → Prop) [DecidablePred g] : Nat → Nat
  | 0 => 0
  | n + 1 => cN g n + (if g n then 1 else 0)
theorem cN_s (g : Nat → Prop) [DecidablePred g] (n : Nat) : cN g (n + 1) = cN g n + (if g n then 1 else 0) := rfl
theorem cN_le (g : Nat → Prop) [DecidablePred g] : ∀ n, cN g n ≤ n
  | 0 => Nat.le_refl _
  | n + 1 => by have := cN_le g n; unfold cN; split <;> omega
theorem cN_lp (g : Nat → Prop) [DecidablePred g] : ∀ (c d : Nat), pn_lp (fun d a => a + (if g d then 1 else 0)) c d (nI (cN g d)) = nI (cN g (d + c))
  | 0, d => rfl
  | c + 1, d => by
    show pn_lp _ c (d + 1) (nI (cN g d) + (if g d then 1 else 0)) = _
    rw [show nI (cN g d) + (if g d then 1 else 0) = nI (cN g (d + 1)) by
      rw [cN_s]
      by_cases z : g d
      · rw [if_pos z, if_pos z, nI_1]
      · rw [if_neg z, if_neg z, Int32.add_zero, Nat.add_zero], cN_lp g c (d + 1), show d + 1 + c = d + (c + 1) by omega]
section TRUTH
variable {P L v m e : Nat} {σ σ2 ρ ρ2 : sx_M} {θ : sx_L} {w : Int32} {d : Nat → Nat}
/-- promise 18 -/
theorem M_truth (h : pn_I σ ρ θ) (x : Int32) : pn_ok (wp_St_truth x σ) (wp_Mo_truth x ρ θ) := by
  obtain ⟨P, L, v, m, hP, hN, hA, hW⟩ := id h
  have h7 := hP.1.1
  have none_ : (x < 0 ∨ nI P ≤ x) → pn_ok (wp_St_truth x σ) (wp_Mo_truth x ρ θ) := fun c => by
    refine ⟨-1, σ, ρ, θ, h, fun Q hQ => ?_, fun Q hQ => ?_⟩
    · unfold wp_St_truth
      refine C_isOn0 hP c ?_
      rw [if_pos rfl]; exact hQ
    · unfold wp_Mo_truth
      refine R_isOn0 hP c ?_
      rw [if_pos rfl]; exact hQ
  rcases pk_ix x (n := P) (by omega) with c | c | ⟨j, hj, rfl⟩
  · exact none_ (Or.inl c)
  · exact none_ (Or.inr c)
  · by_cases co : σ 27 0 j 0 = 0
    · refine ⟨-1, σ, ρ, θ, h, fun Q hQ => ?_, fun Q hQ => ?_⟩
      · unfold wp_St_truth
        refine C_isOn1 hP hj ?_
        rw [if_pos co, if_pos rfl]; exact hQ
      · unfold wp_Mo_truth
        refine R_isOn1 hP hN hj ?_
        rw [if_pos co, if_pos rfl]; exact hQ
    · obtain ⟨ρ1, T1, q1, w1⟩ := R_copies hP hN hW
      obtain ⟨ρ2, d, F2, V2, D2, w2⟩ := R_finds (θ := θ) T1.2.1 T1.2.2.1 (-1)
      obtain ⟨σ2, G2, E2, wC⟩ := C_reckon hP hN D2
      refine ⟨nI (d j), σ2, ρ2, θ, h.look G2.qc (q1.tF F2), fun Q hQ => ?_, fun Q hQ => ?_⟩
      · unfold wp_St_truth
        refine C_isOn1 hP hj ?_
        rw [if_neg co, if_neg (by decide)]
        refine wC _ ⟨vp_in_nI (by omega) (by decide), ?_⟩
        rw [nI_clamp (n := j) (by omega), E2 j hj]; exact hQ
      · unfold wp_Mo_truth
        refine R_isOn1 hP hN hj ?_
        rw [if_neg co, if_neg (by decide)]
        refine w1 _ (w2 _ ⟨vp_in_nI (by omega) (by decide), ?_⟩)
        rw [nI_clamp (n := j) (by omega), V2 j (by omega)]; exact hQ
/-- promise 19 -/
theorem M_right (h : pn_I σ ρ θ) : pn_ok (wp_St_right σ) (wp_Mo_right ρ θ) := by
  obtain ⟨P, L, v, m, hP, hN, hA, hW⟩ := id h
  obtain ⟨ρ1, T1, q1, w1⟩ := R_copies hP hN hW
  obtain ⟨ρ2, d, F2, V2, D2, w2⟩ := R_finds (θ := θ) T1.2.1 T1.2.2.1 (-1)
  obtain ⟨σ2, G2, E2, wC⟩ := C_reckon hP hN D2
  obtain ⟨r, ρ3, zr, F3, rC, rR⟩ := S_isRight (θ := θ) (T1.2.1.mG G2) (T1.2.2.1.mG G2) E2 (D2.mG hP G2)
  refine ⟨r, σ2, ρ3, θ, h.look G2.qc (q1.tF F3), fun Q hQ => ?_, fun Q hQ => ?_⟩
  · unfold wp_St_right wp_St_right_b31
    refine wC _ (rC _ ?_)
    rcases zr with z | z
    · subst z; rw [if_pos rfl]; exact hQ
    · subst z; rw [if_neg (by decide)]; exact hQ
  · unfold wp_Mo_right wp_Mo_right_b16
    refine w1 _ (rR _ ?_)
    rcases zr with z | z
    · subst z; rw [if_pos rfl]; exact hQ
    · subst z; rw [if_neg (by decide)]; exact hQ
/-- promise 33 -/
theorem M_stretch (h : pn_I σ ρ θ) : pn_ok (wp_St_stretch σ) (wp_Mo_stretch ρ θ) := by
  obtain ⟨P, L, v, m, hP, hN, hA, hW⟩ := id h
  have h7 := hP.1.1
  obtain ⟨ρ1, T1, q1, w1⟩ := R_copies hP hN hW
  obtain ⟨ρ2, d, F2, V2, D2, w2⟩ := R_finds (θ := θ) T1.2.1 T1.2.2.1 (-1)
  obtain ⟨σ2, G2, E2, wC⟩ := C_reckon hP hN D2
  have P2 := T1.2.1.mF F2
  have N2 := T1.2.2.1.mF F2
  have P3 := hP.mG G2
  obtain ⟨g, hg⟩ : ∃ g : Nat → Int32 → Int32, g = fun i a => if σ 27 0 i 0 = 0 then a else if 9999 ≤ σ 27 0 i 2 then a else if 9999 ≤ nI (d i) then a else a + (σ 27 0 i 2 - nI (d i)) := ⟨_, rfl⟩
  refine ⟨pn_lp g P 0 0, σ2, ρ2, θ, h.look G2.qc (q1.tF F2), fun Q hQ => ?_, fun Q hQ => ?_⟩
  · unfold wp_St_stretch wp_Tr_sumBeyond
    refine wC _ ?_
    refine pn_lp_go (X := fun f a i => wp_Tr_sumBeyond_b4 Q f 0 a i σ2) (N := P) (g := g) (fun f i a hi hx => ?_) P 0 0 (by omega) ⟨1, ?_⟩
    · show wp_Tr_sumBeyond_b4 Q (f + 1) 0 a (nI i) σ2
      have ci : (nI i).toNatClampNeg = i := nI_clamp (by omega)
      have ii : vp_in (nI i) 7 := vp_in_nI (by omega) (by decide)
      rw [wp_Tr_sumBeyond_b4, P3.2.1.1, if_neg (nI_ge hi (by omega)), ci, G2 27 0 i (by decide), E2 i hi]
      unfold wp_Tr_sumBeyond_b69
      rw [nI_1]
      rw [hg] at hx
      refine ⟨ii, ?_⟩
      by_cases c1 : σ 27 0 i 0 = 0
      · simp only [if_pos c1] at hx ⊢; exact hx
      · simp only [if_neg c1] at hx ⊢
        by_cases c2 : 9999 ≤ σ 27 0 i 2
        · simp only [if_pos c2] at hx ⊢; exact hx
        · simp only [if_neg c2] at hx ⊢
          refine ⟨ii, ?_⟩
          by_cases c3 : 9999 ≤ nI (d i)
          · simp only [if_pos c3] at hx ⊢; exact hx
          · simp only [if_neg c3] at hx ⊢; exact ⟨ii, hx⟩
    · show wp_Tr_sumBeyond_b4 Q 1 0 _ (nI P) σ2
      rw [wp_Tr_sumBeyond_b4, P3.2.1.1, if_pos (nI_le (Nat.le_refl _) (by omega))]; exact hQ
  · unfold wp_Mo_stretch
    refine w1 _ (w2 _ ?_)
    refine pn_lp_go (X := fun f a i => wp_Mo_stretch_b13 Q f a i ρ2 θ) (N := P) (g := g) (fun f i a hi hx => ?_) P 0 0 (by omega) ⟨1, ?_⟩
    · show wp_Mo_stretch_b13 Q (f + 1) a (nI i) ρ2 θ
      have ci : (nI i).toNatClampNeg = i := nI_clamp (by omega)
      have ii : vp_in (nI i) 7 := vp_in_nI (by omega) (by decide)
      have f1 : ρ2 68 0 0 (26 + 10 * i + 1) = σ 27 0 i 2 := N2.fl hi (by decide)
      rw [wp_Mo_stretch_b13, P2.rP, if_neg (nI_ge hi (by omega))]
      refine ⟨P2.live.1, R_isOn N2 rfl hi ?_⟩
      unfold wp_Mo_stretch_b74
      rw [nI_1]
      rw [hg] at hx
      by_cases c1 : σ 27 0 i 0 = 0
      · simp only [if_pos c1] at hx ⊢; exact hx
      · simp only [if_neg c1] at hx ⊢
        refine R_of (i := 1) rfl rfl (by omega) (by decide) ?_
        rw [f1]
        by_cases c2 : 9999 ≤ σ 27 0 i 2
        · simp only [if_pos c2] at hx ⊢; exact hx
        · simp only [if_neg c2] at hx ⊢
          rw [ci, V2 i (by omega)]
          refine ⟨ii, ?_⟩
          by_cases c3 : 9999 ≤ nI (d i)
          · simp only [if_pos c3] at hx ⊢; exact hx
          · simp only [if_neg c3] at hx ⊢
            refine R_of (i := 1) rfl rfl (by omega) (by decide) ?_
            rw [f1, V2 i (by omega)]
            exact ⟨ii, hx⟩
    · show wp_Mo_stretch_b13 Q 1 _ (nI P) ρ2 θ
      rw [wp_Mo_stretch_b13, P2.rP, if_pos (nI_le (Nat.le_refl _) (by omega))]; exact ⟨P2.live.1, hQ⟩
theorem C_isUp {i : Nat} (hi : i < 16) {Q : Int32 → sx_M → Prop} (h : Q (if σ 18 e 0 i = 1 then 1 else 0) σ) : wp_Ne_isUp e (nI i) σ Q := by
  unfold wp_Ne_isUp wp_Ne_isUp_b15
  rw [nI_clamp (n := i) (by omega)]
  refine ⟨vp_in_nI (by omega) (by decide), ?_⟩
  by_cases c : σ 18 e 0 i = 1
  · rw [if_pos c] at h ⊢; exact ⟨Or.inr rfl, h⟩
  · rw [if_neg c] at h ⊢; exact ⟨Or.inl rfl, h⟩
/-- who is reached -/
theorem C_reached (hP : pn_P P L v σ ρ) (hE : ∀ j, j < P → σ 33 0 0 j = nI (d j)) {Q : Int32 → sx_M → Prop} (h : Q (nI (cN (fun i => ¬ σ 27 0 i 0 = 0 ∧ ¬ 9999 ≤ nI (d i)) P)) σ) : wp_Tr_postsReached 0 σ Q := by
  have h7 := hP.1.1
  unfold wp_Tr_postsReached
  rw [show cN (fun i => ¬ σ 27 0 i 0 = 0 ∧ ¬ 9999 ≤ nI (d i)) P = cN (fun i => ¬ σ 27 0 i 0 = 0 ∧ ¬ 9999 ≤ nI (d i)) (0 + P) by rw [Nat.zero_add], ← cN_lp] at h
  refine pn_lp_go (X := fun f a i => wp_Tr_postsReached_b4 Q f 0 a i σ) (N := P) (g := fun i a => a + (if ¬ σ 27 0 i 0 = 0 ∧ ¬ 9999 ≤ nI (d i) then 1 else 0)) (fun f i a hi hx => ?_) P 0 0 (by omega) ⟨1, ?_⟩
  · show wp_Tr_postsReached_b4 Q (f + 1) 0 a (nI i) σ
    have ci : (nI i).toNatClampNeg = i := nI_clamp (by omega)
    have ii : vp_in (nI i) 7 := vp_in_nI (by omega) (by decide)
    rw [wp_Tr_postsReached_b4, hP.2.1.1, if_neg (nI_ge hi (by omega)), ci, hE i hi]
    unfold wp_Tr_postsReached_b44 wp_Tr_postsReached_b45
    rw [nI_1]
    refine ⟨ii, ?_⟩
    by_cases c1 : σ 27 0 i 0 = 0
    · rw [if_pos c1]; simp only [if_neg (show ¬ (¬ σ 27 0 i 0 = 0 ∧ ¬ 9999 ≤ nI (d i)) from fun z => z.1 c1)] at hx; exact hx
    · rw [if_neg c1]
      refine ⟨ii, ?_⟩
      by_cases c2 : 9999 ≤ nI (d i)
      · rw [if_pos c2]; simp only [if_neg (show ¬ (¬ σ 27 0 i 0 = 0 ∧ ¬ 9999 ≤ nI (d i)) from fun z => z.2 c2)] at hx; exact hx
      · rw [if_neg c2]; simp only [if_pos (show ¬ σ 27 0 i 0 = 0 ∧ ¬ 9999 ≤ nI (d i) from ⟨c1, c2⟩)] at hx; exact hx
  · show wp_Tr_postsReached_b4 Q 1 0 _ (nI P) σ
    rw [wp_Tr_postsReached_b4, hP.2.1.1, if_pos (nI_le (Nat.le_refl _) (by omega))]; exact h
theorem cut_sum (hP : pn_P P L v σ ρ) {w1 w2 : Int32} {d1 d2 : Nat → Nat} (h1 : tD P L σ 0 w1 d1) (h2 : tD P L σ 0 w2 d2) : ∀ n, n ≤ P → cN (fun i => ¬ σ 27 0 i 0 = 0 ∧ ¬ 9999 ≤ nI (d1 i)) n + cN (fun i => nI (d1 i) = 9999) n = cN (fun i => nI (d2 i) = 9999) n + cN (fun i => ¬ σ 27 0 i 0 = 0 ∧ ¬ 9999 ≤ nI (d2 i)) n
  | 0, _ => rfl
  | n + 1, hn => by
    have ih := cut_sum hP h1 h2 n (by omega)
    have h7 := hP.1.1
    have off : ∀ {w : Int32} {d : Nat → Nat}, tD P L σ 0 w d → σ 27 0 n 0 = 0 → n = 0 ∧ d n = 10 ∨ d n = 9999 := fun {w d} hd ho => by
      by_cases z : n = 0
      · exact Or.inl ⟨z, by rw [z]; exact hd.1.1.1⟩
      · refine Or.inr ?_
        by_cases c : d n < 9999
        · exfalso
          obtain ⟨l, hl, ⟨-, hu⟩, y⟩ := hd.1.2 n (by omega) (by omega) c
          apply hu
          unfold pn_nb
          by_cases q : σ 13 0 (tA σ l) (tB σ l) = -1
          · rw [if_pos q]
          · rw [if_neg q, if_neg]
            rintro ⟨-, k1, k2⟩
            rcases y with ⟨y, -⟩ | ⟨y, -⟩
            · rw [y] at k2; exact k2 ho
            · rw [y] at k1; exact k1 ho
        · have := hd.1.1.2 n; omega
    have v1 := h1.1.1.2 n
    have v2 := h2.1.1.2 n
    have le9 : ∀ x, 10 ≤ x ∧ x ≤ 9999 → (nI x = 9999 ∧ 9999 ≤ nI x ∧ x = 9999) ∨ (¬ nI x = 9999 ∧ ¬ 9999 ≤ nI x ∧ ¬ x = 9999) := fun x hx => by
      by_cases z : x = 9999
      · subst z; exact Or.inl ⟨rfl, by decide, rfl⟩
      · exact Or.inr ⟨fun q => z ((nI_eq (b := 9999) (by omega) (by decide)).mp q), nI_ge (b := 9999) (by omega) (by decide), z⟩
    have k : (if ¬ σ 27 0 n 0 = 0 ∧ ¬ 9999 ≤ nI (d1 n) then 1 else 0) + (if nI (d1 n) = 9999 then 1 else 0) = (if nI (d2 n) = 9999 then 1 else 0) + (if ¬ σ 27 0 n 0 = 0 ∧ ¬ 9999 ≤ nI (d2 n) then 1 else 0) := by
      by_cases ho : σ 27 0 n 0 = 0
      · have ed : d1 n = d2 n := by
          rcases off h1 ho with ⟨n0, x1⟩ | x1
          · subst n0; rw [h1.1.1.1, h2.1.1.1]
          · rcases off h2 ho with ⟨n0, x2⟩ | x2
            · subst n0; rw [h1.1.1.1, h2.1.1.1]
            · rw [x1, x2]
        rw [ed]; exact Nat.add_comm _ _
      · rcases le9 _ v1 with ⟨a1, a2, a3⟩ | ⟨a1, a2, a3⟩ <;> rcases le9 _ v2 with ⟨b1, b2, b3⟩ | ⟨b1, b2, b3⟩
        · rw [if_neg (fun z => z.2 a2), if_pos a1, if_pos b1, if_neg (fun z => z.2 b2)]
        · rw [if_neg (fun z => z.2 a2), if_pos a1, if_neg b1, if_pos ⟨ho, b2⟩]
        · rw [if_pos ⟨ho, a2⟩, if_neg a1, if_pos b1, if_neg (fun z => z.2 b2)]
        · rw [if_pos ⟨ho, a2⟩, if_neg a1, if_neg b1, if_pos ⟨ho, b2⟩]
    rw [cN_s, cN_s, cN_s, cN_s]
    omega
/-- promise 27 -/
theorem M_cut (h : pn_I σ ρ θ) (x : Int32) : pn_ok (wp_St_cut x σ) (wp_Mo_cut x ρ θ) := by
  obtain ⟨P, L, v, m, hP, hN, hA, hW⟩ := id h
  obtain ⟨h7, h16, hv⟩ := hP.1
  have none_ : (x < 0 ∨ nI L ≤ x) → pn_ok (wp_St_cut x σ) (wp_Mo_cut x ρ θ) := fun c => by
    refine ⟨-1, σ, ρ, θ, h, fun Q hQ => ?_, fun Q hQ => ?_⟩
    · unfold wp_St_cut wp_St_cut_b22
      refine C_isLink0 hP c ?_
      rw [if_pos rfl]; exact hQ
    · unfold wp_Mo_cut wp_Mo_cut_b22
      refine R_isLink0 hP c ?_
      rw [if_pos rfl]; exact hQ
  rcases pk_ix x (n := L) (by omega) with c | c | ⟨j, hj, rfl⟩
  · exact none_ (Or.inl c)
  · exact none_ (Or.inr c)
  · have i8 : vp_in 8 643 := in_I (n := 8) rfl (by decide) (by decide)
    have c8 : (8 : Int32).toNatClampNeg = 8 := rfl
    have up := R_up hN hj
    rcases hN.2.2.2.1.1 j hj with co | co
    · refine ⟨-1, σ, ρ, θ, h, fun Q hQ => ?_, fun Q hQ => ?_⟩
      · unfold wp_St_cut wp_St_cut_b22
        refine C_isLink1 hP rfl hj ?_
        rw [if_neg (by decide)]
        refine C_isUp (by omega) ?_
        rw [if_neg (show ¬ σ 18 0 0 j = 1 by rw [co]; decide), if_pos rfl]; exact hQ
      · unfold wp_Mo_cut wp_Mo_cut_b22
        refine R_isLink1 hP rfl hj ?_
        rw [if_neg (by decide), c8, up, if_pos co]; exact ⟨i8, hQ⟩
    · obtain ⟨ρ1, T1, q1, w1⟩ := R_copies hP hN hW
      obtain ⟨ρ2, d2, F2, V2, D2, w2⟩ := R_finds (θ := θ) T1.2.1 T1.2.2.1 (nI j)
      have P2 := T1.2.1.mF F2
      have N2 := T1.2.2.1.mF F2
      obtain ⟨ρ3, d1, F3, V3, D1, w3⟩ := R_finds (θ := θ) P2 N2 (-1)
      have P3 := P2.mF F3
      obtain ⟨σ2, G2, E2, wC2⟩ := C_reckon hP hN D1
      obtain ⟨σ3, G3, E3, wC3⟩ := C_reckon (hP.mG G2) (hN.mG G2) (D2.mG hP G2)
      have o2 : ∀ i, σ2 27 0 i 0 = σ 27 0 i 0 := fun i => by rw [G2 27 0 i (by decide)]
      have o3 : ∀ i, σ3 27 0 i 0 = σ 27 0 i 0 := fun i => by rw [G3 27 0 i (by decide), o2]
      refine ⟨nI (cN (fun i => ¬ σ 27 0 i 0 = 0 ∧ ¬ 9999 ≤ nI (d1 i)) P) - nI (cN (fun i => ¬ σ 27 0 i 0 = 0 ∧ ¬ 9999 ≤ nI (d2 i)) P), σ3, ρ3, θ, h.look (G2.qc.tr G3.qc) ((q1.tF F2).tF F3), fun Q hQ => ?_, fun Q hQ => ?_⟩
      · unfold wp_St_cut
        refine C_isLink1 hP rfl hj ?_
        rw [if_neg (by decide)]
        refine C_isUp (by omega) ?_
        rw [if_pos co, if_neg (by decide)]
        refine wC2 _ (C_reached (hP.mG G2) E2 (wC3 _ (C_reached ((hP.mG G2).mG G3) E3 ?_)))
        simp only [o2, o3]; exact hQ
      · have es := sub_I (a := nI (cN (fun i => ¬ σ 27 0 i 0 = 0 ∧ ¬ 9999 ≤ nI (d1 i)) P)) (b := nI (cN (fun i => ¬ σ 27 0 i 0 = 0 ∧ ¬ 9999 ≤ nI (d2 i)) P)) (c := nI (cN (fun i => nI (d2 i) = 9999) P)) (d := nI (cN (fun i => nI (d1 i) = 9999) P)) (by rw [nI_add, nI_add, cut_sum hP D1 D2 P (Nat.le_refl _)])
        rw [es] at hQ
        unfold wp_Mo_cut
        refine R_isLink1 hP rfl hj ?_
        rw [if_neg (by decide), c8, up, if_neg (by rw [co]; decide)]
        refine ⟨i8, w1 _ (w2 _ ?_)⟩
        have l2 : ∀ (c k : Nat), k + c = P → ∃ f, wp_Mo_cut_b78 Q f (nI (cN (fun i => nI (d2 i) = 9999) P) - nI (cN (fun i => nI (d1 i) = 9999) k)) (nI k) ρ3 θ := fun c => by
          induction c with
          | zero =>
            intro k hk
            have : k = P := by omega
            subst this
            exact ⟨1, by rw [wp_Mo_cut_b78, P3.rP, if_pos (nI_le (Nat.le_refl _) (by omega))]; exact ⟨P3.live.1, hQ⟩⟩
          | succ c ih =>
            intro k hk
            obtain ⟨f, hf⟩ := ih (k + 1) (by omega)
            refine ⟨f + 1, ?_⟩
            rw [wp_Mo_cut_b78, P3.rP, if_neg (nI_ge (by omega) (by omega)), nI_clamp (n := k) (by omega), V3 k (by omega)]
            refine ⟨P3.live.1, vp_in_nI (by omega) (by decide), ?_⟩
            unfold wp_Mo_cut_b106
            rw [nI_1]
            rw [cN_s] at hf
            by_cases z : nI (d1 k) = 9999
            · rw [if_pos z] at hf ⊢
              rw [← nI_1, show ∀ a b : Int32, a - (b + 1) = a - b + (-1) from fun a b => by rw [Int32.sub_eq_add_neg, Int32.sub_eq_add_neg, Int32.neg_add, Int32.sub_eq_add_neg, Int32.add_assoc]] at hf
              exact hf
            · rw [if_neg z] at hf ⊢; exact hf
        refine pn_lp_go (X := fun f a i => wp_Mo_cut_b37 Q f a i ρ2 θ) (N := P) (g := fun i a => a + (if nI (d2 i) = 9999 then 1 else 0)) (fun f i a hi hx => ?_) P 0 0 (by omega) ⟨1, ?_⟩
        · show wp_Mo_cut_b37 Q (f + 1) a (nI i) ρ2 θ
          rw [wp_Mo_cut_b37, P2.rP, if_neg (nI_ge hi (by omega)), nI_clamp (n := i) (by omega), V2 i (by omega)]
          refine ⟨P2.live.1, vp_in_nI (by omega) (by decide), ?_⟩
          unfold wp_Mo_cut_b65
          rw [nI_1]
          by_cases z : nI (d2 i) = 9999
          · simp only [if_pos z] at hx ⊢; exact hx
          · simp only [if_neg z, Int32.add_zero] at hx ⊢; exact hx
        · show wp_Mo_cut_b37 Q 1 _ (nI P) ρ2 θ
          rw [wp_Mo_cut_b37, P2.rP, if_pos (nI_le (Nat.le_refl _) (by omega))]
          refine ⟨P2.live.1, w3 _ ?_⟩
          have e0 := cN_lp (fun i => nI (d2 i) = 9999) P 0
          rw [Nat.zero_add] at e0
          have := l2 P 0 (by omega)
          rw [← e0] at this
          have z0 : ∀ a : Int32, a - nI (cN (fun i => nI (d1 i) = 9999) 0) = a := fun a => by show a - 0 = a; rw [Int32.sub_zero]
          rw [z0] at this
          exact this
theorem S_needLoop {j : Nat} (hj : j < P) (x : Int32) : ∀ (c i : Nat) (σ ρ : sx_M) (a : Int32), i + c = L → pn_P P L v σ ρ → pn_N P L m σ 0 ρ 68 0 →
    ∃ r σ2 ρ2, tF 33 σ σ2 ∧ tF 74 ρ ρ2 ∧ (∀ Q : Int32 → sx_M → Prop, Q r σ2 → ∃ f, wp_St_needs_b37 Q f (nI j) x a (nI i) σ) ∧ (∀ Q : Int32 → sx_M → sx_L → Prop, Q r ρ2 θ → ∃ f, wp_Mo_needs_b31 Q f (nI j) x a (nI i) ρ θ)
  | 0, i, σ, ρ, a, hi, hP, hN => by
    have h16 := hP.1.2.1
    refine ⟨a, σ, ρ, tF.rf, tF.rf, fun Q hQ => ⟨1, ?_⟩, fun Q hQ => ⟨1, ?_⟩⟩
    · rw [wp_St_needs_b37, hP.2.1.2.1, if_pos (nI_le (by omega) (by omega))]; exact hQ
    · rw [wp_Mo_needs_b31, hP.rL, if_pos (nI_le (by omega) (by omega))]; exact ⟨hP.live.1, hQ⟩
  | c + 1, i, σ, ρ, a, hi, hP, hN => by
    obtain ⟨h7, h16, hv⟩ := hP.1
    have hiL : i < L := by omega
    have ni : ¬ nI L ≤ nI i := nI_ge hiL (by omega)
    have cj : (nI j).toNatClampNeg = j := nI_clamp (by omega)
    have ij : vp_in (nI j) 7 := vp_in_nI (by omega) (by decide)
    rcases hN.2.2.2.1.1 i hiL with co | co
    · obtain ⟨r, σ2, ρ2, G2, F2, wC, wR⟩ := S_needLoop hj x c (i + 1) σ ρ a (by omega) hP hN
      refine ⟨r, σ2, ρ2, G2, F2, fun Q hQ => ?_, fun Q hQ => ?_⟩
      · obtain ⟨f, hf⟩ := wC Q hQ
        refine ⟨f + 1, ?_⟩
        rw [wp_St_needs_b37, hP.2.1.2.1, if_neg ni]
        refine C_isUp (by omega) ?_
        unfold wp_St_needs_b98
        rw [if_neg (show ¬ σ 18 0 0 i = 1 by rw [co]; decide), if_pos rfl, nI_1]; exact hf
      · obtain ⟨f, hf⟩ := wR Q hQ
        refine ⟨f + 1, ?_⟩
        rw [wp_Mo_needs_b31, hP.rL, if_neg ni]
        refine ⟨hP.live.1, R_isUp hN rfl hiL ?_⟩
        unfold wp_Mo_needs_b80
        rw [if_pos co, nI_1]; exact hf
    · obtain ⟨ρ1, d, F1, V1, D1, w1⟩ := R_finds (θ := θ) hP hN (nI i)
      obtain ⟨σ1, G1, E1, wC1⟩ := C_reckon hP hN D1
      obtain ⟨r, σ2, ρ2, G2, F2, wC, wR⟩ := S_needLoop hj x c (i + 1) σ1 ρ1 (if nI (d j) ≤ x then a else a ||| (1 <<< (nI i &&& 31))) (by omega) ((hP.mG G1).mF F1) ((hN.mG G1).mF F1)
      refine ⟨r, σ2, ρ2, fun k n p q => (G2 k n p q).trans (G1 k n p q), fun k n p q => (F2 k n p q).trans (F1 k n p q), fun Q hQ => ?_, fun Q hQ => ?_⟩
      · obtain ⟨f, hf⟩ := wC Q hQ
        refine ⟨f + 1, ?_⟩
        rw [wp_St_needs_b37, hP.2.1.2.1, if_neg ni]
        refine C_isUp (by omega) ?_
        rw [if_pos co, if_neg (by decide)]
        refine wC1 _ ?_
        unfold wp_St_needs_b96 wp_St_needs_b98
        rw [cj, E1 j hj, nI_1]
        refine ⟨ij, ?_⟩
        by_cases z : nI (d j) ≤ x
        · rw [if_pos z] at hf ⊢; rw [Int32.or_zero]; exact hf
        · rw [if_neg z] at hf ⊢; exact hf
      · obtain ⟨f, hf⟩ := wR Q hQ
        refine ⟨f + 1, ?_⟩
        rw [wp_Mo_needs_b31, hP.rL, if_neg ni]
        refine ⟨hP.live.1, R_isUp hN rfl hiL ?_⟩
        rw [if_neg (by rw [co]; decide)]
        refine w1 _ ?_
        unfold wp_Mo_needs_b80
        rw [cj, V1 j (by omega), nI_1]
        refine ⟨ij, ?_⟩
        by_cases z : nI (d j) ≤ x
        · rw [if_pos z] at hf ⊢; exact hf
        · rw [if_neg z] at hf ⊢; exact hf
/-- promise 28 -/
theorem M_needs (h : pn_I σ ρ θ) (x : Int32) : pn_ok (wp_St_needs x σ) (wp_Mo_needs x ρ θ) := by
  obtain ⟨P, L, v, m, hP, hN, hA, hW⟩ := id h
  have h7 := hP.1.1
  have none_ : (x < 0 ∨ nI P ≤ x) → pn_ok (wp_St_needs x σ) (wp_Mo_needs x ρ θ) := fun c => by
    refine ⟨-1, σ, ρ, θ, h, fun Q hQ => ?_, fun Q hQ => ?_⟩
    · unfold wp_St_needs
      refine C_isOn0 hP c ?_
      rw [if_pos rfl]; exact hQ
    · unfold wp_Mo_needs
      refine R_isOn0 hP c ?_
      rw [if_pos rfl]; exact hQ
  rcases pk_ix x (n := P) (by omega) with c | c | ⟨j, hj, rfl⟩
  · exact none_ (Or.inl c)
  · exact none_ (Or.inr c)
  · by_cases co : σ 27 0 j 0 = 0
    · refine ⟨-1, σ, ρ, θ, h, fun Q hQ => ?_, fun Q hQ => ?_⟩
      · unfold wp_St_needs
        refine C_isOn1 hP hj ?_
        rw [if_pos co, if_pos rfl]; exact hQ
      · unfold wp_Mo_needs
        refine R_isOn1 hP hN hj ?_
        rw [if_pos co, if_pos rfl]; exact hQ
    · obtain ⟨ρ1, T1, q1, w1⟩ := R_copies hP hN hW
      obtain ⟨ρ2, d, F2, V2, D2, w2⟩ := R_finds (θ := θ) T1.2.1 T1.2.2.1 (-1)
      obtain ⟨σ2, G2, E2, wC⟩ := C_reckon hP hN D2
      obtain ⟨r, σ3, ρ3, G3, F3, wC3, wR3⟩ := S_needLoop (θ := θ) hj (nI (d j)) L 0 σ2 ρ2 0 (by omega) ((T1.2.1.mG G2).mF F2) ((T1.2.2.1.mG G2).mF F2)
      refine ⟨r, σ3, ρ3, θ, h.look (G2.qc.tr G3.qc) ((q1.tF F2).tF F3), fun Q hQ => ?_, fun Q hQ => ?_⟩
      · unfold wp_St_needs
        refine C_isOn1 hP hj ?_
        rw [if_neg co, if_neg (by decide)]
        refine wC _ ⟨vp_in_nI (by omega) (by decide), ?_⟩
        rw [nI_clamp (n := j) (by omega), E2 j hj]; exact wC3 Q hQ
      · unfold wp_Mo_needs
        refine R_isOn1 hP hN hj ?_
        rw [if_neg co, if_neg (by decide)]
        refine w1 _ (w2 _ ⟨vp_in_nI (by omega) (by decide), ?_⟩)
        rw [nI_clamp (n := j) (by omega), V2 j (by omega)]; exact wR3 Q hQ
end TRUTH
