section PARTSB
variable {t : Nat} {σ ρ ρ2 : sx_M} {θ θ2 : sx_L} {B : Nat → Int32}
theorem R_blanks (hR : tx_R t B ρ) {m : Nat} (hm : m ≤ 400) (h10 : ρ 50 0 0 10 = nI m) {Q : sx_M → sx_L → Prop} {e : Nat} (he : e ≤ t) (hf : ∃ f, wp_Mo_parts_b7 Q f (nI e) ρ θ) : ∀ (d i : Nat), i + d = e → (∀ k, i ≤ k → k < e → tx_b (tx_c B t k)) → ∃ f, wp_Mo_parts_b7 Q f (nI i) ρ θ := by
  obtain ⟨ht, r1, r2⟩ := id hR
  intro d
  induction d with
  | zero =>
    intro i hi hb
    have : i = e := by omega
    rw [this]; exact hf
  | succ d ih =>
    intro i hi hb
    obtain ⟨f, hf⟩ := ih (i + 1) (by omega) (fun k h1 h2 => hb k (by omega) h2)
    have bi := hb i (Nat.le_refl _) (by omega)
    refine ⟨f + 1, ?_⟩
    rw [wp_Mo_parts_b7, h10, if_neg (show ¬ 400 < nI m from nI_nlt (a := 400) hm (by decide))]
    refine R_byteL hR rfl (by omega) (fun b hb2 b1 b2 => ?_)
    have e1 : b = tx_c B t i := b1 (by omega)
    rw [r1, if_pos (nI_lt (by omega) (by omega))]
    unfold wp_Mo_parts_b67 wp_Mo_parts_b291
    rw [nI_1]
    rw [← e1] at bi
    have ne : ∀ k : Nat, k < 256 → ¬ b = k → ¬ nI b = nI k := fun k hk z q => z ((nI_eq (by omega) (by omega)).mp q)
    by_cases c1 : b = 9
    · rw [if_pos (show nI b = 9 by rw [c1]; rfl)]; exact hf
    · rw [if_neg (show ¬ nI b = 9 from ne 9 (by decide) c1)]
      by_cases c2 : b = 10
      · rw [if_pos (show nI b = 10 by rw [c2]; rfl)]; exact hf
      · rw [if_neg (show ¬ nI b = 10 from ne 10 (by decide) c2)]
        by_cases c3 : b = 13
        · rw [if_pos (show nI b = 13 by rw [c3]; rfl)]; exact hf
        · rw [if_neg (show ¬ nI b = 13 from ne 13 (by decide) c3)]
          have c4 : b = 32 := by rcases bi with z | z | z | z <;> first | contradiction | exact z
          rw [if_pos (show nI b = 32 by rw [c4]; rfl)]; exact hf
/-- a token's facts stay -/
theorem tk_F.mv {i : Nat} (h : tk_F B t ρ θ i) (h1 : ρ2 53 0 0 i = ρ 53 0 0 i) (h2 : ρ2 54 0 0 i = ρ 54 0 0 i) (h3 : ρ2 55 0 0 i = ρ 55 0 0 i) (h4 : θ2 56 i = θ 56 i) : tk_F B t ρ2 θ2 i := by
  unfold tk_F at h ⊢
  rw [h1, h2, h3, h4]; exact h
theorem R_partsLoop : ∀ (d m : Nat) (ρ : sx_M) (θ : sx_L), m + d = 401 → tx_R t B ρ → (∀ i, i < 14 → θ 57 i = pn_ky.getD i 0) → ρ 50 0 0 10 = nI m → (∀ i, i < m → tk_F B t ρ θ i) → (∀ i, i < m → tx_o B t i ≠ 17) →
    ∃ nt ρ2 θ2, (1 ≤ nt ∨ m = 0) ∧ nt ≤ 401 ∧ m ≤ nt ∧ (∀ i, i < nt → tk_F B t ρ2 θ2 i) ∧ (∀ i, i + 1 < nt → tx_o B t i ≠ 17) ∧ (nt = 401 ∨ (1 ≤ nt ∧ tx_o B t (nt - 1) = 17)) ∧ tk_g ρ ρ2 ∧ tk_l θ θ2 ∧ ∀ Q : sx_M → sx_L → Prop, Q ρ2 θ2 → ∃ f, wp_Mo_parts_b7 Q f (nI (tx_p B t m)) ρ θ := by
  intro d
  induction d with
  | zero =>
    intro m ρ θ hm hR hk h10 hF h17
    have em : m = 401 := by omega
    refine ⟨401, ρ, θ, Or.inl (by decide), Nat.le_refl _, by omega, fun i hi => hF i (by omega), fun i hi => h17 i (by omega), Or.inl rfl, tk_g.rf, fun _ _ => rfl, fun Q hQ => ⟨1, ?_⟩⟩
    rw [wp_Mo_parts_b7, h10, if_pos (show 400 < nI m from nI_lt (a := 400) (by omega) (by omega))]; exact hQ
  | succ d ih =>
    intro m ρ θ hm hR hk h10 hF h17
    obtain ⟨ht, r1, r2⟩ := id hR
    obtain ⟨pm, jm⟩ := tx_p_le (B := B) ht m h17
    have m4 : m ≤ 400 := by omega
    obtain ⟨s1, s2, s3, s4⟩ := tx_r_spec tx_b (by decide) B (t := t) (i := tx_p B t m) ht
    have start : ∀ (Q : sx_M → sx_L → Prop), (∃ f, wp_Mo_parts_b7 Q f (nI (tx_j B t m)) ρ θ) → ∃ f, wp_Mo_parts_b7 Q f (nI (tx_p B t m)) ρ θ := fun Q h => R_blanks hR m4 h10 jm h (tx_j B t m - tx_p B t m) (tx_p B t m) (by have : tx_p B t m ≤ tx_j B t m := s1; omega) s2
    have nb : ¬ tx_b (tx_c B t (tx_j B t m)) := s3
    by_cases cj : t ≤ tx_j B t m
    · -- the end
      have ej : tx_j B t m = t := by omega
      have o17 : tx_o B t m = 17 := tx_s_17.mpr cj
      obtain ⟨ρ2, θ2, ⟨a1, a2, a3, a4⟩, b1, b2, g, l, w⟩ := R_token (θ := θ) m4 h10 0 (nI t) 0 0
      refine ⟨m + 1, ρ2, θ2, Or.inl (by omega), by omega, by omega, fun i hi => ?_, fun i hi => h17 i (by omega), Or.inr ⟨by omega, by rw [Nat.add_sub_cancel]; exact o17⟩, g, l, fun Q hQ => start Q ⟨1, ?_⟩⟩
      · by_cases c : i = m
        · rw [c]
          refine ⟨?_, ?_, fun z => ?_, fun z => ?_⟩
          · rw [a1, o17]; rfl
          · rw [a2, ej]
          · omega
          · omega
        · obtain ⟨c1, c2, c3, c4⟩ := b1 i c
          exact (hF i (by omega)).mv c1 c2 c3 c4
      · rw [wp_Mo_parts_b7, h10, if_neg (show ¬ 400 < nI m from nI_nlt (a := 400) m4 (by decide))]
        refine R_byteL hR rfl (by omega) (fun b hb b1 b2 => ?_)
        rw [r1, if_neg (nI_nlt cj (by omega))]
        exact w _ hQ
    · have jt : tx_j B t m < t := by omega
      have o17 : tx_o B t m ≠ 17 := fun z => cj (tx_s_17.mp z)
      have first : ∀ (Q : sx_M → sx_L → Prop) f, wp_Mo_isLetter (nI (tx_c B t (tx_j B t m))) ρ θ (fun r27 σ27 τ27 => if r27 = 0 then (wp_Mo_isDigit (nI (tx_c B t (tx_j B t m))) σ27 τ27 (fun r29 σ29 τ29 => if r29 = 0 then (wp_Mo_byteAt (nI (tx_j B t m) + 1) σ29 τ29 (fun r31 σ31 τ31 => wp_Mo_sign (nI (tx_j B t m)) (nI (tx_c B t (tx_j B t m))) r31 σ31 τ31 (fun r32 σ32 τ32 => wp_Mo_parts_b291 (wp_Mo_parts_b7 Q f) Q (nI (tx_j B t m) + r32) σ32 τ32))) else (∃ f208, wp_Mo_parts_b208 (wp_Mo_parts_b7 Q f) Q f208 (nI (tx_j B t m)) 0 0 σ29 τ29))) else (∃ f85, wp_Mo_parts_b85 (wp_Mo_parts_b7 Q f) Q f85 (nI (tx_j B t m)) 0 0 σ27 τ27)) → wp_Mo_parts_b7 Q (f + 1) (nI (tx_j B t m)) ρ θ := fun Q f h => by
        rw [wp_Mo_parts_b7, h10, if_neg (show ¬ 400 < nI m from nI_nlt (a := 400) m4 (by decide))]
        refine R_byteAt hR rfl (by omega) ?_
        rw [if_pos jt, r1, if_pos (nI_lt jt (by omega))]
        have lt := tx_c_lt (B := B) jt
        generalize tx_c B t (tx_j B t m) = b at *
        have ne : ∀ k : Nat, k < 256 → ¬ b = k → ¬ nI b = nI k := fun k hk z q => z ((nI_eq (by omega) (by omega)).mp q)
        rw [if_neg (show ¬ nI b = 9 from ne 9 (by decide) (fun z => nb (Or.inl z))), if_neg (show ¬ nI b = 10 from ne 10 (by decide) (fun z => nb (Or.inr (Or.inl z)))), if_neg (show ¬ nI b = 13 from ne 13 (by decide) (fun z => nb (Or.inr (Or.inr (Or.inl z))))), if_neg (show ¬ nI b = 32 from ne 32 (by decide) (fun z => nb (Or.inr (Or.inr (Or.inr z)))))]
        exact h
      have lt := tx_c_lt (B := B) jt
      have pe : tx_p B t (m + 1) = tx_e B t (tx_j B t m) := rfl
      -- the token, and on
      have step : ∀ (x3 : Int32) (x4 : Int64), (tx_o B t m = 15 → x3 = nI (tx_dv (fun i => tx_c B t (tx_j B t m + i)) (tx_n B t m))) → (tx_o B t m ≤ 14 → x4 = lN (tx_v (fun i => tx_c B t (tx_j B t m + i)) (tx_n B t m))) →
          ∃ nt ρ2 θ2, (1 ≤ nt ∨ m = 0) ∧ nt ≤ 401 ∧ m ≤ nt ∧ (∀ i, i < nt → tk_F B t ρ2 θ2 i) ∧ (∀ i, i + 1 < nt → tx_o B t i ≠ 17) ∧ (nt = 401 ∨ (1 ≤ nt ∧ tx_o B t (nt - 1) = 17)) ∧ tk_g ρ ρ2 ∧ tk_l θ θ2 ∧ ∀ Q : sx_M → sx_L → Prop, Q ρ2 θ2 → ∃ f, wp_Mo_token (nI (tx_rk (tx_s B t (tx_j B t m)))) (nI (tx_j B t m)) x3 x4 ρ θ (fun ρ θ => wp_Mo_parts_b7 Q f (nI (tx_e B t (tx_j B t m))) ρ θ) := by
        intro x3 x4 h3 h4
        obtain ⟨ρ1, θ1, ⟨a1, a2, a3, a4⟩, b1, b2, g, l, w⟩ := R_token (θ := θ) m4 h10 (nI (tx_rk (tx_s B t (tx_j B t m)))) (nI (tx_j B t m)) x3 x4
        obtain ⟨nt, ρ2, θ2, c1, c2, c2', c3, c4, c5, c6, c7, c8⟩ := ih (m + 1) ρ1 θ1 (by omega) (g.R hR) (fun i hi => by rw [l 57 (by decide)]; exact hk i hi) b2 (fun i hi => by
          by_cases c : i = m
          · rw [c]
            exact ⟨a1, a2, fun z => by rw [a3]; exact h3 z, fun z => by rw [a4]; exact h4 z⟩
          · obtain ⟨c1, c2, c3, c4⟩ := b1 i c
            exact (hF i (by omega)).mv c1 c2 c3 c4) (fun i hi => by
          by_cases c : i = m
          · rw [c]; exact o17
          · exact h17 i (by omega))
        refine ⟨nt, ρ2, θ2, Or.inl (by omega), c2, by omega, c3, c4, c5, g.tr c6, fun k q => (c7 k q).trans (l k q), fun Q hQ => ?_⟩
        obtain ⟨f, hf⟩ := c8 Q hQ
        exact ⟨f, w _ hf⟩
      by_cases cl : tx_l (tx_c B t (tx_j B t m))
      · have es : tx_o B t m = if tx_n B t m ≤ 8 then tx_fw (tx_v (fun i => tx_c B t (tx_j B t m + i)) (tx_n B t m)) 14 0 else 18 := by unfold tx_o tx_s tx_n; rw [if_pos jt, if_pos cl, pe]
        obtain ⟨nt, ρ2, θ2, c1, c2, c2', c3, c4, c5, c6, c7, c8⟩ := step 0 (lN (tx_v (fun i => tx_c B t (tx_j B t m + i)) (min (tx_e B t (tx_j B t m) - tx_j B t m) 8))) (fun z => by
          rw [es] at z
          by_cases q : tx_n B t m ≤ 8
          · rw [if_pos q] at z
            have := tx_fw_le (tx_v (fun i => tx_c B t (tx_j B t m + i)) (tx_n B t m)) 14 0 (by decide)
            omega
          · rw [if_neg q] at z; omega) (fun z => by
          rw [es] at z
          by_cases q : tx_n B t m ≤ 8
          · have : min (tx_e B t (tx_j B t m) - tx_j B t m) 8 = tx_n B t m := Nat.min_eq_left q
            rw [this]
          · rw [if_neg q] at z; omega)
        refine ⟨nt, ρ2, θ2, c1, c2, c2', c3, c4, c5, c6, c7, fun Q hQ => start Q ?_⟩
        obtain ⟨f, hf⟩ := c8 Q hQ
        refine ⟨f + 1, first Q f ?_⟩
        refine R_isLetter rfl lt (fun _ => ?_) (fun z => absurd cl z)
        rw [if_neg (by decide)]
        exact R_letters hR hk m4 h10 jm cl (fun _ _ => hf)
      · by_cases cd : tx_d (tx_c B t (tx_j B t m))
        · have es : tx_o B t m = if tx_n B t m ≤ 4 then 15 else 18 := by unfold tx_o tx_s tx_n; rw [if_pos jt, if_neg cl, if_pos cd, pe]
          obtain ⟨nt, ρ2, θ2, c1, c2, c2', c3, c4, c5, c6, c7, c8⟩ := step (nI (tx_dv (fun i => tx_c B t (tx_j B t m + i)) (min (tx_e B t (tx_j B t m) - tx_j B t m) 4))) 0 (fun z => by
            rw [es] at z
            by_cases q : tx_n B t m ≤ 4
            · have : min (tx_e B t (tx_j B t m) - tx_j B t m) 4 = tx_n B t m := Nat.min_eq_left q
              rw [this]
            · rw [if_neg q] at z; omega) (fun z => by
            rw [es] at z
            by_cases q : tx_n B t m ≤ 4
            · rw [if_pos q] at z; omega
            · rw [if_neg q] at z; omega)
          refine ⟨nt, ρ2, θ2, c1, c2, c2', c3, c4, c5, c6, c7, fun Q hQ => start Q ?_⟩
          obtain ⟨f, hf⟩ := c8 Q hQ
          refine ⟨f + 1, first Q f ?_⟩
          refine R_isLetter rfl lt (fun z => absurd z cl) (fun _ => ?_)
          rw [if_pos rfl]
          refine R_isDigit rfl lt (fun _ => ?_) (fun z => absurd cd z)
          rw [if_neg (by decide)]
          exact R_digits hR m4 h10 jm cl cd hf
        · have es : tx_o B t m = if tx_c B t (tx_j B t m) = 59 then 16 else 18 := by unfold tx_o tx_s; rw [if_pos jt, if_neg cl, if_neg cd]
          have ee : tx_e B t (tx_j B t m) = tx_j B t m + 1 := by unfold tx_e; rw [if_neg cl, if_neg cd]
          obtain ⟨nt, ρ2, θ2, c1, c2, c2', c3, c4, c5, c6, c7, c8⟩ := step 0 0 (fun z => by
            rw [es] at z
            by_cases q : tx_c B t (tx_j B t m) = 59
            · rw [if_pos q] at z; omega
            · rw [if_neg q] at z; omega) (fun z => by
            rw [es] at z
            by_cases q : tx_c B t (tx_j B t m) = 59
            · rw [if_pos q] at z; omega
            · rw [if_neg q] at z; omega)
          refine ⟨nt, ρ2, θ2, c1, c2, c2', c3, c4, c5, c6, c7, fun Q hQ => start Q ?_⟩
          obtain ⟨f, hf⟩ := c8 Q hQ
          refine ⟨f + 1, first Q f ?_⟩
          refine R_isLetter rfl lt (fun z => absurd z cl) (fun _ => ?_)
          rw [if_pos rfl]
          refine R_isDigit rfl lt (fun z => absurd z cd) (fun _ => ?_)
          rw [if_pos rfl, nI_1]
          refine R_byteL hR rfl (by omega) (fun b hb _ _ => ?_)
          have es' : tx_s B t (tx_j B t m) = if tx_c B t (tx_j B t m) = 59 then 16 else 18 := es
          unfold wp_Mo_sign wp_Mo_sign_b12 wp_Mo_parts_b291
          dsimp only
          rw [nI_1, ← ee]
          by_cases q : tx_c B t (tx_j B t m) = 59
          · rw [if_pos (show nI (tx_c B t (tx_j B t m)) = 59 by rw [q]; rfl)]
            rw [es', if_pos q] at hf; exact hf
          · rw [if_neg (show ¬ nI (tx_c B t (tx_j B t m)) = 59 from fun z => q ((nI_eq (b := 59) (by omega) (by decide)).mp z))]
            rw [es', if_neg q] at hf; exact hf
/-- the tokens of a text, as the reference has them -/
def tk_T (B : Nat → Int32) (t nt : Nat) (ρ : sx_M) (θ : sx_L) : Prop := 1 ≤ nt ∧ nt ≤ 401 ∧ (∀ i, i < nt → tk_F B t ρ θ i) ∧ (∀ i, i + 1 < nt → tx_o B t i ≠ 17) ∧ (nt = 401 ∨ tx_o B t (nt - 1) = 17)
theorem R_parts (hR : tx_R t B ρ) (hk : ∀ i, i < 14 → θ 57 i = pn_ky.getD i 0) : ∃ nt ρ2 θ2, tk_T B t nt ρ2 θ2 ∧ tk_g ρ ρ2 ∧ tk_l θ θ2 ∧ ∀ Q : sx_M → sx_L → Prop, Q ρ2 θ2 → wp_Mo_parts ρ θ Q := by
  obtain ⟨ρ1, e1⟩ : ∃ z, z = sx_u ρ 50 0 0 10 0 := ⟨_, rfl⟩
  have g1 : tk_g ρ ρ1 := ⟨fun k n p h => by rw [e1, sx_u_row _ _ _ _ _ _ (by omega)], fun j h => by rw [e1, sx_u_at, if_neg (by omega)]⟩
  obtain ⟨nt, ρ2, θ2, c1, c2, c2', c3, c4, c5, c6, c7, c8⟩ := R_partsLoop (t := t) (B := B) 401 0 ρ1 θ rfl (g1.R hR) hk (by rw [e1, sx_u_at]; simp; rfl) (fun i hi => absurd hi (Nat.not_lt_zero i)) (fun i hi => absurd hi (Nat.not_lt_zero i))
  refine ⟨nt, ρ2, θ2, ⟨?_, c2, c3, c4, ?_⟩, g1.tr c6, c7, fun Q hQ => ?_⟩
  · rcases c5 with z | z
    · omega
    · exact z.1
  · rcases c5 with z | z
    · exact Or.inl z
    · exact Or.inr z.2
  · unfold wp_Mo_parts
    intro _ q; rw [← e1] at q; subst q
    exact c8 Q hQ
end PARTSB
