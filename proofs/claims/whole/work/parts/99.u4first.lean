/-- both sides as they are made, alike -/
theorem first_I : ∃ σ1 ρ1, pn_I σ1 ρ1 md_τ ∧ (∀ Q : sx_M → Prop, Q σ1 → wp_En_beginAll 0 st_σ Q) ∧ ∀ Q : sx_M → sx_L → Prop, Q ρ1 md_τ → wp_Mo_plain 0 md_σ md_τ (fun ρ θ => wp_Mo_plain 1 ρ θ (fun ρ θ => wp_Mo_begins ρ θ (fun ρ θ => wp_Mo_keepsRow ρ θ Q))) := by
  obtain ⟨ρa, ⟨a1, a2, a3⟩, a4, a5, a6, a7, a8⟩ := R_plain (v := 0) (ρ := md_σ) (θ := md_τ) (by decide)
  obtain ⟨ρb, ⟨b1, b2, b3⟩, b4, b5, b6, b7, b8⟩ := R_plain (v := 1) (ρ := ρa) (θ := md_τ) (by decide)
  have f50 : ∀ j, ρb 50 0 0 j = md_σ 50 0 0 j := fun j => (b7 j).trans (a7 j)
  have hP : pn_P 0 0 0 st_σ ρb := by
    refine ⟨⟨by decide, by decide, by decide⟩, ⟨rfl, rfl, by rw [f50]; rfl, ?_, ?_⟩, ⟨Or.inl rfl, ?_⟩, fun i hi => ⟨?_, ?_⟩, ⟨⟨2, by decide, by decide, by decide⟩, ⟨3, by decide, by decide⟩, ⟨12, by decide, by decide, by decide⟩, ⟨4, by decide, by decide, by decide⟩⟩, fun x y hx => absurd hx (Nat.not_lt_zero _), fun x hx => absurd hx (Nat.not_lt_zero _), fun x hx => absurd hx (Nat.not_lt_zero _)⟩
    · rw [b6.2.2.1 58 0 (Or.inl rfl) (by decide)]; exact a1
    · rw [b6.2.2.1 59 0 (Or.inr (Or.inl rfl)) (by decide)]; exact a2
    · rw [b6.2.2.1 65 0 (Or.inr (Or.inr rfl)) (by decide)]; exact a3
    · rw [b6.2.2.2.2.2 (9 * 0 + i) (by omega)]; exact a4 i hi
    · match i, hi with
      | 0, _ => exact ⟨4, by decide, by decide⟩
      | 1, _ => exact ⟨3, by decide, by decide⟩
      | 2, _ => exact ⟨2, by decide, by decide⟩
      | 3, _ => exact ⟨5, by decide, by decide⟩
      | 4, _ => exact ⟨60, by decide, by decide⟩
      | 5, _ => exact ⟨4, by decide, by decide⟩
      | 6, _ => exact ⟨12, by decide, by decide⟩
      | 7, _ => exact ⟨0, by decide, by decide⟩
      | 8, _ => exact ⟨0, by decide, by decide⟩
      | i + 9, hi => exact absurd hi (by omega)
  obtain ⟨σ2, ρ2, hT, hA, fσ, fρ, g50, h31, w1, w2⟩ := S_begins (θ := md_τ) hP rfl
  have r73 : ∀ s, ρ2 73 0 0 s = 0 := fun s => by rw [fρ 73 0 0 (by decide), b6.1 73 0 0 (by decide), a6.1 73 0 0 (by decide)]; rfl
  have hW : pn_W 0 0 σ2 ρ2 md_τ := by
    refine ⟨⟨⟨0, by decide, ?_, ?_, fun i hi => absurd hi (Nat.not_lt_zero _)⟩, ?_⟩, ⟨0, 0, 0, by decide, by decide, by decide, ?_, ?_, ?_, ?_, fun j hj => absurd hj (Nat.not_lt_zero _)⟩, fun s hs => ⟨?_, ?_, ?_⟩, ⟨?_, ?_, h31⟩, fun i hi => ?_⟩
    · rw [fσ 1 0 0 (by decide)]; rfl
    · rw [g50 2 (by decide), f50]; rfl
    · rw [fσ 3 0 0 (by decide), g50 16 (by decide), f50]; rfl
    · rw [fσ 0 0 0 (by decide)]; rfl
    · rw [g50 37 (by decide), f50]; rfl
    · rw [fσ 0 0 0 (by decide)]; rfl
    · rw [g50 36 (by decide), f50]; rfl
    · rw [fσ 39 0 0 (by decide)]; exact Or.inl rfl
    · rw [fσ 39 0 0 (by decide), r73]; rfl
    · intro h
      rw [fσ 39 0 0 (by decide)] at h
      exact absurd h (by show ¬ ((0 : Int32) = 1); decide)
    · rw [fσ 31 0 0 (by decide)]; rfl
    · rw [fσ 31 1 0 (by decide)]; rfl
    · match i, hi with
      | 0, _ => decide
      | 1, _ => decide
      | 2, _ => decide
      | 3, _ => decide
      | 4, _ => decide
      | 5, _ => decide
      | 6, _ => decide
      | 7, _ => decide
      | 8, _ => decide
      | 9, _ => decide
      | 10, _ => decide
      | 11, _ => decide
      | 12, _ => decide
      | 13, _ => decide
      | i + 14, hi => exact absurd hi (by omega)
  obtain ⟨ρ3, hI, -, -, w3⟩ := R_keepsRow hT hA hW
  exact ⟨σ2, ρ3, hI, w1, fun Q hQ => a8 _ (b8 _ (w2 _ (w3 Q hQ)))⟩
