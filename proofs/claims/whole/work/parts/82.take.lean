section TAKE
variable {t nt N v m p l : Nat} {σ σ2 ρ ρ2 : sx_M} {θ θ2 : sx_L} {B : Nat → Int32}
/-- one tell, on both sides -/
theorem S_tell (hc : cc_ B t N σ) (h : pr_C B t nt v m p l ρ θ) (hD : dr_ B t N v p l σ ρ θ) (h3 : σ 3 0 0 3 = 0) (h14 : ρ 50 0 0 14 = 0) (h17 : tx_o B t m ≠ 17) {s : Nat} (hy : sy_y (tx_o B t) m s (sy_l s) p l = (0, N)) :
    ∃ m2 p2 l2 s2 σ2 ρ2 θ2, m2 = m + 1 + sy_l (sy_h (tx_o B t m)) ∧ m < m2 ∧ (∀ Q : sx_M → Prop, Q σ2 → wp_Re_tell (nI m) σ Q) ∧ (∀ Q : sx_M → sx_L → Prop, Q ρ2 θ2 → wp_Mo_tellOne ρ θ Q) ∧ cc_f σ σ2 ∧ pr_g v ρ ρ2 ∧ pr_l v θ θ2 ∧ (m2 ≤ N ∧ sy_y (tx_o B t) m2 s2 (sy_l s2) p2 l2 = (0, N)) ∧ pr_C B t nt v m2 p2 l2 ρ2 θ2 ∧ tl_ B t N v p2 l2 m2 σ σ2 ρ2 θ2 := by
  have hb := h.b
  have y0 := sy_at (tx_o B t) (s := s) (p := p) (l := l) hb
  rw [if_neg h17, hy] at y0
  have sh : ¬ sy_h (tx_o B t m) = 0 := fun z => by rw [if_pos z] at y0; have := congrArg Prod.fst y0; simp at this
  have le11 : tx_o B t m ≤ 11 := by
    rcases Nat.lt_or_ge 11 (tx_o B t m) with z | z
    · exact absurd (by unfold sy_h; rw [if_neg (by omega), if_neg (by omega), if_neg (by omega), if_neg (by omega), if_pos (by omega)]) sh
    · exact z
  by_cases c0 : tx_o B t m = 0
  · obtain ⟨σ2, ρ2, θ2, a1, a2, a3, a4, a5, a6, a7, a8⟩ := S_tellPost hc h hD h3 h14 c0 hy
    exact ⟨m + 3, p + 1, l, 1, σ2, ρ2, θ2, by rw [c0]; rfl, by omega, a1, a2, a3, a4, a5, a6, a7, a8⟩
  by_cases c1 : tx_o B t m = 1
  · obtain ⟨σ2, ρ2, θ2, a1, a2, a3, a4, a5, a6, a7, a8⟩ := S_tellLink hc h hD h3 h14 c1 hy
    exact ⟨m + 5, p, l + 1, 2, σ2, ρ2, θ2, by rw [c1]; rfl, by omega, a1, a2, a3, a4, a5, a6, a7, a8⟩
  by_cases c2 : tx_o B t m = 11
  · obtain ⟨σ2, ρ2, θ2, a1, a2, a3, a4, a5, a6, a7, a8⟩ := S_tellGoal hc h hD h3 h14 c2 hy
    exact ⟨m + 3, p, l, 3, σ2, ρ2, θ2, by rw [c2]; rfl, by omega, a1, a2, a3, a4, a5, a6, a7, a8⟩
  · obtain ⟨k, ek⟩ : ∃ k, tx_o B t m = k + 2 := ⟨tx_o B t m - 2, by omega⟩
    obtain ⟨σ2, ρ2, θ2, a1, a2, a3, a4, a5, a6, a7, a8⟩ := S_tellNum hc h hD h3 h14 (k := k) (by omega) ek hy
    have shp : sy_h (k + 2) = 4 := by unfold sy_h; rw [if_neg (by omega), if_neg (by omega), if_neg (by omega), if_neg (by omega), if_neg (by omega)]
    exact ⟨m + 3, p, l, 4, σ2, ρ2, θ2, by rw [ek, shp]; rfl, by omega, a1, a2, a3, a4, a5, a6, a7, a8⟩
/-- how taking a text ends on both sides -/
def tk_E (B : Nat → Int32) (t N v : Nat) (σ2 ρ2 : sx_M) (θ2 : sx_L) : Prop := (σ2 3 0 0 3 = 0 ∧ σ2 3 0 0 4 = -1 ∧ ρ2 50 0 0 14 = 0 ∧ ∃ P L, dr_ B t N v P L σ2 ρ2 θ2 ∧ ρ2 58 0 0 v = nI P ∧ ρ2 59 0 0 v = nI L) ∨ ∃ k x, 3 ≤ k ∧ k ≤ 5 ∧ σ2 3 0 0 3 = nI k ∧ σ2 3 0 0 4 = nI x ∧ wk_ (nI k) x ρ2
theorem S_take : ∀ (d m p l s : Nat) (σ ρ : sx_M) (θ : sx_L), m + d = 401 → cc_ B t N σ → pr_C B t nt v m p l ρ θ → dr_ B t N v p l σ ρ θ → σ 3 0 0 3 = 0 → σ 3 0 0 4 = -1 → ρ 50 0 0 14 = 0 → sy_y (tx_o B t) m s (sy_l s) p l = (0, N) →
    ∃ σ2 ρ2 θ2, cc_f σ σ2 ∧ pr_g v ρ ρ2 ∧ pr_l v θ θ2 ∧ ρ2 50 0 0 12 = 0 ∧ tk_E B t N v σ2 ρ2 θ2 ∧ (∀ Q : sx_M → Prop, Q σ2 → ∃ f, wp_Re_take_b39 Q f (nI m) σ) ∧ ∀ Q : Int32 → sx_M → sx_L → Prop, wp_Mo_read_b100 Q ρ2 θ2 → ∃ f, wp_Mo_read_b78 Q f ρ θ := by
  intro d
  induction d using Nat.strongRecOn with
  | _ d ih =>
    intro m p l s σ ρ θ hd hc h hD h3 h34 h14 hy
    have ht := hc.b
    have hb := h.b
    have hN := hc.2.2.1
    obtain ⟨-, -, -, k0, -, -⟩ := tx_rk_i (tx_o B t m) (tx_s_le B t (tx_j B t m))
    by_cases c17 : tx_o B t m = 17
    · have y0 := sy_at (tx_o B t) (s := s) (p := p) (l := l) hb
      rw [if_pos c17, hy] at y0
      have em : m = N := by have := congrArg Prod.snd y0; simp at this; omega
      refine ⟨σ, ρ, θ, cc_f.rf, pr_g.rf, pr_l.rf, h.2.2.2.1, Or.inl ⟨h3, h34, h14, p, l, hD, h.2.2.2.2.1.1, h.2.2.2.2.2.1⟩, fun Q hQ => ⟨1, ?_⟩, fun Q hQ => ⟨1, ?_⟩⟩
      · rw [wp_Re_take_b39, hc.2.2.2.1, if_pos (nI_le (by omega) (by omega))]; exact hQ
      · rw [wp_Mo_read_b78, h.2.2.2.1, if_pos rfl]
        refine R_is h (k := 0) rfl (by decide) (fun _ => ?_) (fun z => absurd (k0.mpr c17) z)
        rw [if_neg (by decide)]; exact hQ
    · obtain ⟨m2, p2, l2, s2, σ1, ρ1, θ1, em, mm, wC, wR, f1, g1, l1, ⟨nN, y1⟩, C1, T1⟩ := S_tell hc h hD h3 h14 c17 hy
      have hc1 := hc.mv f1
      have mN : m < N := by omega
      have stepC : ∀ (Q : sx_M → Prop) f, wp_Re_take_b39 Q f (nI m2) σ1 → wp_Re_take_b39 Q (f + 1) (nI m) σ := fun Q f hf => by
        rw [wp_Re_take_b39, hc.2.2.2.1, if_neg (nI_ge mN (by omega)), h3, if_pos rfl]
        refine wC _ (C_tellSize hc1 mN ?_)
        rw [nI_add, show m + (1 + sy_l (sy_h (tx_o B t m))) = m2 by omega]; exact hf
      have stepR : ∀ (Q : Int32 → sx_M → sx_L → Prop) f, wp_Mo_read_b78 Q f ρ1 θ1 → wp_Mo_read_b78 Q (f + 1) ρ θ := fun Q f hf => by
        rw [wp_Mo_read_b78, h.2.2.2.1, if_pos rfl]
        refine R_is h (k := 0) rfl (by decide) (fun z => absurd (k0.mp z) c17) (fun _ => ?_)
        rw [if_pos rfl]
        exact wR _ hf
      rcases T1 with ⟨a1, a2, a3, a4⟩ | ⟨k, x, b1, b2, b3, b4, b5, b6⟩
      · obtain ⟨σ2, ρ2, θ2, e1, e2, e3, e4, e5, e6, e7⟩ := ih (401 - m2) (by omega) m2 p2 l2 s2 σ1 ρ1 θ1 (by omega) hc1 C1 a4 a1 (by rw [a2]; exact h34) a3 y1
        refine ⟨σ2, ρ2, θ2, f1.tr e1, g1.tr e2, l1.tr e3, e4, e5, fun Q hQ => ?_, fun Q hQ => ?_⟩
        · obtain ⟨f, hf⟩ := e6 Q hQ; exact ⟨f + 1, stepC Q f hf⟩
        · obtain ⟨f, hf⟩ := e7 Q hQ; exact ⟨f + 1, stepR Q f hf⟩
      · obtain ⟨ρ2, θ2, e1, e2, e3, -, -, e6, e7⟩ := R_alone ht (401 - m2) m2 p2 l2 s2 ρ1 θ1 (by omega) C1
        rw [y1] at e3 e6
        refine ⟨σ1, ρ2, θ2, f1, g1.tr e1, l1.tr e2, e3, Or.inr ⟨k, x, b1, b2, b3, b4, e6 _ _ (nI_ne0 (by omega) (by omega)) b6 b5 rfl⟩, fun Q hQ => ⟨2, stepC Q 1 ?_⟩, fun Q hQ => ?_⟩
        · rw [wp_Re_take_b39, hc1.2.2.2.1, b3]
          unfold wp_Re_take_b74
          by_cases z : N ≤ m2
          · rw [if_pos (nI_le z (by omega))]; exact hQ
          · rw [if_neg (nI_ge (by omega) (by omega)), if_neg (nI_ne0 (by omega) (by omega))]; exact hQ
        · obtain ⟨f, hf⟩ := e7 Q hQ; exact ⟨f + 1, stepR Q f hf⟩
/-- the draft is cleared -/
theorem C_clear : ∃ σ2, (σ2 8 1 0 0 = 0 ∧ σ2 8 1 0 1 = 0 ∧ σ2 8 1 0 7 = 0) ∧ (∀ i, i < 9 → σ2 14 1 0 i = kx_sta 0 i) ∧ (∀ a b, a < 7 → b < 7 → σ2 13 1 a b = -1) ∧ (∀ k n q, ¬ ((k = 8 ∨ k = 13 ∨ k = 14) ∧ n = 1) → σ2 k n q = σ k n q) ∧ ∀ Q : sx_M → Prop, Q σ2 → wp_Pl_clear 1 σ Q := by
  obtain ⟨σ1, e1⟩ : ∃ z, z = sx_u (sx_u (sx_u σ 8 1 0 0 0) 8 1 0 1 0) 8 1 0 7 0 := ⟨_, rfl⟩
  have o1 : ∀ k n q, ¬ (k = 8 ∧ n = 1) → σ1 k n q = σ k n q := fun k n q h => by rw [e1, sx_u_row _ _ _ _ _ _ (by omega), sx_u_row _ _ _ _ _ _ (by omega), sx_u_row _ _ _ _ _ _ (by omega)]
  have v1 : σ1 8 1 0 0 = 0 ∧ σ1 8 1 0 1 = 0 ∧ σ1 8 1 0 7 = 0 := by
    refine ⟨?_, ?_, ?_⟩
    · rw [e1, sx_u_at, if_neg (by omega), sx_u_at, if_neg (by omega), sx_u_at]; simp
    · rw [e1, sx_u_at, if_neg (by omega), sx_u_at]; simp
    · rw [e1, sx_u_at]; simp
  -- numbers
  have L1 : ∀ (d i : Nat) (σ : sx_M), i + d = 9 → ∃ σ2, (∀ j, i ≤ j → j < 9 → σ2 14 1 0 j = kx_sta 0 j) ∧ (∀ j, j < i → σ2 14 1 0 j = σ 14 1 0 j) ∧ (∀ k n q, ¬ (k = 14 ∧ n = 1) → σ2 k n q = σ k n q) ∧ ∀ Q : sx_M → Prop, (∃ f, wp_Pl_clear_b44 1 Q f 0 σ2) → ∃ f, wp_Pl_clear_b17 1 Q f (nI i) σ := by
    intro d
    induction d with
    | zero =>
      intro i σ hi
      refine ⟨σ, fun j h1 h2 => by omega, fun _ _ => rfl, fun _ _ _ _ => rfl, fun Q h => ⟨1, ?_⟩⟩
      rw [wp_Pl_clear_b17, if_pos (show 9 ≤ nI i from nI_le (a := 9) (by omega) (by omega))]; exact h
    | succ d ih =>
      intro i σ hi
      obtain ⟨σ3, e3⟩ : ∃ z, z = sx_u σ 14 1 0 i (kx_sta 0 i) := ⟨_, rfl⟩
      obtain ⟨σ2, a1, a2, a3, a4⟩ := ih (i + 1) σ3 (by omega)
      refine ⟨σ2, fun j h1 h2 => ?_, fun j hj => ?_, fun k n q h => ?_, fun Q h => ?_⟩
      · by_cases z : j = i
        · rw [z, a2 i (by omega), e3, sx_u_at]; simp
        · exact a1 j (by omega) h2
      · rw [a2 j (by omega), e3, sx_u_at, if_neg (by omega)]
      · rw [a3 k n q h, e3, sx_u_row _ _ _ _ _ _ (by omega)]
      · obtain ⟨f, hf⟩ := a4 Q h
        refine ⟨f + 1, ?_⟩
        rw [wp_Pl_clear_b17, if_neg (show ¬ 9 ≤ nI i from nI_ge (b := 9) (by omega) (by decide)), nI_clamp (n := i) (by omega), nI_1]
        refine ⟨vp_in_nI (by omega) (by decide), vp_in_nI (by omega) (by decide), ?_⟩
        intro _ q; rw [← e3] at q; subst q; exact hf
  have L3 : ∀ (a : Nat), a < 7 → ∀ (d b : Nat) (σ : sx_M), b + d = 7 → ∃ σ2, (∀ j, b ≤ j → j < 7 → σ2 13 1 a j = -1) ∧ (∀ j, j < b → σ2 13 1 a j = σ 13 1 a j) ∧ (∀ k n q, ¬ (k = 13 ∧ n = 1 ∧ q = a) → σ2 k n q = σ k n q) ∧ ∀ (K : Int32 → sx_M → Prop) (Q : sx_M → Prop), K (nI (a + 1)) σ2 → ∃ f, wp_Pl_clear_b52 1 K Q f (nI a) (nI b) σ := by
    intro a ha d
    induction d with
    | zero =>
      intro b σ hb
      refine ⟨σ, fun j h1 h2 => by omega, fun _ _ => rfl, fun _ _ _ _ => rfl, fun K Q h => ⟨1, ?_⟩⟩
      rw [wp_Pl_clear_b52, if_pos (show 7 ≤ nI b from nI_le (a := 7) (by omega) (by omega)), nI_1]; exact h
    | succ d ih =>
      intro b σ hb
      obtain ⟨σ3, e3⟩ : ∃ z, z = sx_u σ 13 1 a b (-1) := ⟨_, rfl⟩
      obtain ⟨σ2, a1, a2, a3, a4⟩ := ih (b + 1) σ3 (by omega)
      refine ⟨σ2, fun j h1 h2 => ?_, fun j hj => ?_, fun k n q h => ?_, fun K Q h => ?_⟩
      · by_cases z : j = b
        · rw [z, a2 b (by omega), e3, sx_u_at]; simp
        · exact a1 j (by omega) h2
      · rw [a2 j (by omega), e3, sx_u_at, if_neg (by omega)]
      · rw [a3 k n q h, e3, sx_u_row _ _ _ _ _ _ (by omega)]
      · obtain ⟨f, hf⟩ := a4 K Q h
        refine ⟨f + 1, ?_⟩
        rw [wp_Pl_clear_b52, if_neg (show ¬ 7 ≤ nI b from nI_ge (b := 7) (by omega) (by decide)), nI_clamp (n := a) (by omega), nI_clamp (n := b) (by omega), nI_1]
        refine ⟨vp_in_nI (by omega) (by decide), vp_in_nI (by omega) (by decide), ?_⟩
        intro _ q; rw [← e3] at q; subst q; exact hf
  have L2 : ∀ (d a : Nat) (σ : sx_M), a + d = 7 → ∃ σ2, (∀ i j, a ≤ i → i < 7 → j < 7 → σ2 13 1 i j = -1) ∧ (∀ i, i < a → σ2 13 1 i = σ 13 1 i) ∧ (∀ k n q, ¬ (k = 13 ∧ n = 1) → σ2 k n q = σ k n q) ∧ ∀ Q : sx_M → Prop, Q σ2 → ∃ f, wp_Pl_clear_b44 1 Q f (nI a) σ := by
    intro d
    induction d with
    | zero =>
      intro a σ ha
      refine ⟨σ, fun i j h1 h2 _ => by omega, fun _ _ => rfl, fun _ _ _ _ => rfl, fun Q h => ⟨1, ?_⟩⟩
      rw [wp_Pl_clear_b44, if_pos (show 7 ≤ nI a from nI_le (a := 7) (by omega) (by omega))]; exact h
    | succ d ih =>
      intro a σ ha
      obtain ⟨σ3, b1, b2, b3, b4⟩ := L3 a (by omega) 7 0 σ rfl
      obtain ⟨σ2, a1, a2, a3, a4⟩ := ih (a + 1) σ3 (by omega)
      refine ⟨σ2, fun i j h1 h2 hj => ?_, fun i hi => ?_, fun k n q h => ?_, fun Q h => ?_⟩
      · by_cases z : i = a
        · rw [z, a2 a (by omega)]; exact b1 j (Nat.zero_le _) hj
        · exact a1 i j (by omega) h2 hj
      · rw [a2 i (by omega)]; exact b3 13 1 i (by omega)
      · rw [a3 k n q h]; exact b3 k n q (by omega)
      · obtain ⟨f, hf⟩ := a4 Q h
        refine ⟨f + 1, ?_⟩
        rw [wp_Pl_clear_b44, if_neg (show ¬ 7 ≤ nI a from nI_ge (b := 7) (by omega) (by decide))]
        exact b4 _ Q hf
  obtain ⟨σ3, b1, b2, b3, b4⟩ := L1 9 0 σ1 rfl
  obtain ⟨σ2, a1, a2, a3, a4⟩ := L2 7 0 σ3 rfl
  refine ⟨σ2, ?_, fun i hi => ?_, fun a b ha hb => a1 a b (Nat.zero_le _) ha hb, fun k n q h => ?_, fun Q hQ => ?_⟩
  · rw [a3 8 1 0 (by omega), b3 8 1 0 (by omega)]; exact v1
  · rw [a3 14 1 0 (by omega)]; exact b1 i (Nat.zero_le _) hi
  · rw [a3 k n q (by omega), b3 k n q (by omega)]; exact o1 k n q (by omega)
  · unfold wp_Pl_clear
    intro _ q; subst q
    intro _ q; subst q
    intro _ q; rw [← e1] at q; subst q
    exact b4 Q (a4 Q hQ)
/-- the side is plain -/
theorem R_plain (hv : v < 2) : ∃ ρ2, (ρ2 58 0 0 v = 0 ∧ ρ2 59 0 0 v = 0 ∧ ρ2 65 0 0 v = 0) ∧ (∀ i, i < 9 → ρ2 66 0 0 (9 * v + i) = kx_sta 0 i) ∧ (∀ i, i < 49 → ρ2 64 0 0 (49 * v + i) = -1) ∧ pr_g v ρ ρ2 ∧ (∀ j, ρ2 50 0 0 j = ρ 50 0 0 j) ∧ ∀ Q : sx_M → sx_L → Prop, Q ρ2 θ → wp_Mo_plain (nI v) ρ θ Q := by
  have iv : vp_in (nI v) 2 := vp_in_nI hv (by decide)
  have cv : (nI v).toNatClampNeg = v := nI_clamp (by omega)
  have nar : vp_nar .boolean 0 = 0 := by decide
  obtain ⟨ρ1, e1⟩ : ∃ z, z = sx_u (sx_u (sx_u ρ 58 0 0 v 0) 59 0 0 v 0) 65 0 0 v 0 := ⟨_, rfl⟩
  have g1 : pr_g v ρ ρ1 := by rw [e1]; exact ((pr_g.rf.u (Or.inr (Or.inl ⟨Or.inl rfl, rfl⟩))).u (Or.inr (Or.inl ⟨Or.inr (Or.inl rfl), rfl⟩))).u (Or.inr (Or.inl ⟨Or.inr (Or.inr rfl), rfl⟩))
  have v1 : ρ1 58 0 0 v = 0 ∧ ρ1 59 0 0 v = 0 ∧ ρ1 65 0 0 v = 0 := by
    refine ⟨?_, ?_, ?_⟩
    · rw [e1, sx_u_row _ _ _ _ _ _ (by decide), sx_u_row _ _ _ _ _ _ (by decide), sx_u_at]; simp
    · rw [e1, sx_u_row _ _ _ _ _ _ (by decide), sx_u_at]; simp
    · rw [e1, sx_u_at]; simp
  have o50 : ρ1 50 0 0 = ρ 50 0 0 := by rw [e1, sx_u_row _ _ _ _ _ _ (by decide), sx_u_row _ _ _ _ _ _ (by decide), sx_u_row _ _ _ _ _ _ (by decide)]
  have e9 : ∀ i : Nat, (9 * nI v) + nI i = nI (9 * v + i) := fun i => by rw [show (9 : Int32) * nI v = nI (9 * v) from pk_mul 9 v, nI_add]
  have c9 : ∀ i : Nat, i < 9 → (nI (9 * v + i)).toNatClampNeg = 9 * v + i := fun i hi => nI_clamp (by omega)
  have i9 : ∀ i : Nat, i < 9 → vp_in (nI (9 * v + i)) 18 := fun i hi => vp_in_nI (by omega) (by decide)
  have e49 : (49 * nI v) + 49 = nI (49 * v + 49) := by rw [show (49 : Int32) * nI v = nI (49 * v) from pk_mul 49 v]; exact nI_add _ 49
  have L1 : ∀ (d i : Nat) (ρ : sx_M), i + d = 49 → ∃ ρ2, (∀ j, i ≤ j → j < 49 → ρ2 64 0 0 (49 * v + j) = -1) ∧ (∀ j, ¬ (49 * v + i ≤ j ∧ j < 49 * v + 49) → ρ2 64 0 0 j = ρ 64 0 0 j) ∧ (∀ k n q, ¬ k = 64 → ¬ k = 66 → ρ2 k n q = ρ k n q) ∧ (∀ j, j < 9 → ρ2 66 0 0 (9 * v + j) = kx_sta 0 j) ∧ (∀ j, ¬ (9 * v ≤ j ∧ j < 9 * v + 9) → ρ2 66 0 0 j = ρ 66 0 0 j) ∧ ∀ Q : sx_M → sx_L → Prop, Q ρ2 θ → ∃ f, wp_Mo_plain_b26 Q f (nI v) (nI (49 * v + i)) ρ θ := by
    intro d
    induction d with
    | zero =>
      intro i ρ hi
      obtain ⟨ρ2, e2⟩ : ∃ z, z = sx_u (sx_u (sx_u (sx_u (sx_u (sx_u (sx_u (sx_u (sx_u ρ 66 0 0 (9 * v) 4) 66 0 0 (9 * v + 1) 3) 66 0 0 (9 * v + 2) 2) 66 0 0 (9 * v + 3) 5) 66 0 0 (9 * v + 4) 60) 66 0 0 (9 * v + 5) 4) 66 0 0 (9 * v + 6) 12) 66 0 0 (9 * v + 7) 0) 66 0 0 (9 * v + 8) 0 := ⟨_, rfl⟩
      have o2 : ∀ k n q, ¬ k = 66 → ρ2 k n q = ρ k n q := fun k n q h => by rw [e2]; simp only [sx_u_row _ _ _ _ _ _ (show ¬ (k = 66 ∧ n = 0 ∧ q = 0) by omega)]
      refine ⟨ρ2, fun j h1 h2 => by omega, fun j hj => by rw [o2 64 0 0 (by decide)], fun k n q _ h => o2 k n q h, fun j hj => ?_, fun j hj => ?_, fun Q hQ => ⟨1, ?_⟩⟩
      · have cs : j = 0 ∨ j = 1 ∨ j = 2 ∨ j = 3 ∨ j = 4 ∨ j = 5 ∨ j = 6 ∨ j = 7 ∨ j = 8 := by omega
        rw [e2]
        simp only [sx_u_at]
        rcases cs with rfl | rfl | rfl | rfl | rfl | rfl | rfl | rfl | rfl <;> (simp; rfl)
      · rw [e2]
        simp only [sx_u_at]
        rw [if_neg (by omega), if_neg (by omega), if_neg (by omega), if_neg (by omega), if_neg (by omega), if_neg (by omega), if_neg (by omega), if_neg (by omega), if_neg (by omega)]
      · have z0 : (9 * nI v) = nI (9 * v + 0) := pk_mul 9 v
        have q0 : ∀ i : Nat, (nI (9 * v + 0)) + nI i = nI (9 * v + i) := fun i => by rw [nI_add, Nat.add_zero]
        rw [wp_Mo_plain_b26, e49, if_pos (nI_le (by omega) (by omega)), z0, show nI (9 * v + 0) + 1 = nI (9 * v + 1) from q0 1, show nI (9 * v + 0) + 2 = nI (9 * v + 2) from q0 2, show nI (9 * v + 0) + 3 = nI (9 * v + 3) from q0 3, show nI (9 * v + 0) + 4 = nI (9 * v + 4) from q0 4, show nI (9 * v + 0) + 5 = nI (9 * v + 5) from q0 5, show nI (9 * v + 0) + 6 = nI (9 * v + 6) from q0 6, show nI (9 * v + 0) + 7 = nI (9 * v + 7) from q0 7, show nI (9 * v + 0) + 8 = nI (9 * v + 8) from q0 8, c9 0 (by decide), c9 1 (by decide), c9 2 (by decide), c9 3 (by decide), c9 4 (by decide), c9 5 (by decide), c9 6 (by decide), c9 7 (by decide), c9 8 (by decide)]
        refine ⟨i9 0 (by decide), ?_⟩
        intro _ q; subst q
        refine ⟨i9 1 (by decide), ?_⟩
        intro _ q; subst q
        refine ⟨i9 2 (by decide), ?_⟩
        intro _ q; subst q
        refine ⟨i9 3 (by decide), ?_⟩
        intro _ q; subst q
        refine ⟨i9 4 (by decide), ?_⟩
        intro _ q; subst q
        refine ⟨i9 5 (by decide), ?_⟩
        intro _ q; subst q
        refine ⟨i9 6 (by decide), ?_⟩
        intro _ q; subst q
        refine ⟨i9 7 (by decide), ?_⟩
        intro _ q; subst q
        refine ⟨i9 8 (by decide), ?_⟩
        intro _ q
        have : _ = ρ2 := q.trans e2.symm
        subst this; exact hQ
    | succ d ih =>
      intro i ρ hi
      obtain ⟨ρ3, e3⟩ : ∃ z, z = sx_u ρ 64 0 0 (49 * v + i) (-1) := ⟨_, rfl⟩
      obtain ⟨ρ2, a1, a2, a3, a4, a5, a6⟩ := ih (i + 1) ρ3 (by omega)
      refine ⟨ρ2, fun j h1 h2 => ?_, fun j hj => ?_, fun k n q h h2 => ?_, a4, fun j hj => ?_, fun Q h => ?_⟩
      · by_cases z : j = i
        · rw [z, a2 _ (by omega), e3, sx_u_at]; simp
        · exact a1 j (by omega) h2
      · rw [a2 j (by omega), e3, sx_u_at, if_neg (by omega)]
      · rw [a3 k n q h h2, e3, sx_u_row _ _ _ _ _ _ (by omega)]
      · rw [a5 j hj, e3, sx_u_row _ _ _ _ _ _ (by decide)]
      · obtain ⟨f, hf⟩ := a6 Q h
        refine ⟨f + 1, ?_⟩
        rw [wp_Mo_plain_b26, e49, if_neg (nI_ge (by omega) (by omega)), nI_clamp (n := 49 * v + i) (by omega), nI_1]
        refine ⟨vp_in_nI (by omega) (by decide), ?_⟩
        intro _ q; rw [← e3] at q; subst q; exact hf
  obtain ⟨ρ2, a1, a2, a3, a4, a5, a6⟩ := L1 49 0 ρ1 rfl
  have g2 : pr_g v ρ1 ρ2 := by
    refine ⟨fun k n q h => a3 k n q (by omega) (by omega), fun j _ => by rw [a3 50 0 0 (by decide) (by decide)], fun k j hk _ => by rw [a3 k 0 0 (by omega) (by omega)], fun k j hk _ => by rw [a3 k 0 0 (by omega) (by omega)], fun j hj => a2 j (by omega), a5⟩
  refine ⟨ρ2, ?_, a4, fun i hi => a1 i (Nat.zero_le _) hi, g1.tr g2, fun j => ?_, fun Q hQ => ?_⟩
  · rw [a3 58 0 0 (by decide) (by decide), a3 59 0 0 (by decide) (by decide), a3 65 0 0 (by decide) (by decide)]; exact v1
  · rw [a3 50 0 0 (by decide) (by decide), o50]
  · unfold wp_Mo_plain
    rw [cv, nar]
    refine ⟨iv, ?_⟩
    intro _ q; subst q
    refine ⟨iv, ?_⟩
    intro _ q; subst q
    refine ⟨iv, ?_⟩
    intro _ q; rw [← e1] at q; subst q
    rw [show (49 : Int32) * nI v = nI (49 * v + 0) from pk_mul 49 v]
    exact a6 Q hQ
end TAKE
