section SCANB
variable {t : Nat} {σ σ2 ρ ρ2 : sx_M} {θ θ2 : sx_L} {B : Nat → Int32}
/-- what the scan leaves -/
def sy_R (B : Nat → Int32) (t : Nat) (r : Nat × Nat) (σ2 : sx_M) : Prop := σ2 4 0 0 4 = nI r.1 ∧ r.1 ≤ 2 ∧ r.2 ≤ 400 ∧ (r.1 = 0 → σ2 4 0 0 5 = -1 ∧ σ2 4 0 0 3 = nI r.2 ∧ (∀ i, i < r.2 → tk_C B t σ2 i) ∧ tx_o B t r.2 = 17) ∧ (¬ r.1 = 0 → σ2 4 0 0 5 = nI (tx_j B t r.2)) ∧ ∀ i, i < r.2 → tx_o B t i ≠ 17
theorem C_scanLoop : ∀ (f m s me p l : Nat) (σ : sx_M), f + m = 401 → tx_C t σ → σ 2 0 0 = B → sy_S σ m s me p l → (∀ i, i < m → tk_C B t σ i) → (∀ i, i < m → tx_o B t i ≠ 17) → m ≤ 400 →
    ∃ σ2, sy_F σ σ2 ∧ sy_R B t (sy_ (tx_o B t) f m s me p l) σ2 ∧ ∀ Q : sx_M → Prop, Q σ2 → ∃ g, wp_To_scan_b8 Q g (nI (tx_p B t m)) (nI m) σ := by
  intro f
  induction f with
  | zero => intro m s me p l σ hf hC hB hS hT h17 hm; omega
  | succ f ih =>
    intro m s me p l σ hf hC hB hS hT h17 hm
    obtain ⟨ht, hC1⟩ := id hC
    obtain ⟨pm, jm⟩ := tx_p_le (B := B) ht m h17
    have ok : tx_o B t m ≤ 18 := tx_s_le B t _
    have pe : tx_p B t (m + 1) = tx_e B t (tx_j B t m) := rfl
    have ee := tx_e_le (B := B) ht jm
    obtain ⟨⟨s3, s4, s5, s6, s7, s8, s9⟩, hs, hme, hp, hl⟩ := id hS
    obtain ⟨tl, tl84⟩ := sy_tl s (by omega)
    have is6 : vp_in (nI s) 6 := vp_in_nI (by omega) (by decide)
    -- up to the judgement
    have head : ∀ (Q : sx_M → Prop) (g : Nat), (tx_o B t m = 17 → me = sy_l s → Q σ) → (¬ (tx_o B t m = 17 ∧ me = sy_l s) → wp_To_scan_b59 (wp_To_scan_b8 Q g) Q (nI (tx_j B t m)) (nI m) (nI (tx_p B t (m + 1))) (nI (tx_o B t m)) σ) → wp_To_scan_b8 Q (g + 1) (nI (tx_p B t m)) (nI m) σ := fun Q g h1 h2 => by
      rw [wp_To_scan_b8, if_neg (show ¬ 400 < nI m from nI_nlt (a := 400) hm (by decide))]
      refine C_blanks hC pm ?_
      rw [hB]
      refine C_runEnd hC jm ?_
      refine C_sortOf hC jm ?_
      rw [hB]
      show if nI (tx_o B t m) = 17 then _ else _
      by_cases c : tx_o B t m = 17
      · rw [if_pos (show nI (tx_o B t m) = 17 by rw [c]; rfl), s6, s7, tl]
        refine ⟨is6, ?_⟩
        by_cases c2 : me = sy_l s
        · rw [if_pos (by rw [c2])]; exact h1 c c2
        · rw [if_neg (fun z => c2 ((nI_eq (by omega) (by omega)).mp z))]
          exact h2 (fun z => c2 z.2)
      · rw [if_neg (show ¬ nI (tx_o B t m) = 17 from fun z => c ((nI_eq (b := 17) (by omega) (by decide)).mp z))]
        exact h2 (fun z => c z.1)
    have told : ∀ (q : Int32), ¬ q = 0 → sy_F σ (sy_f σ q (nI (tx_j B t m))) ∧ sy_f σ q (nI (tx_j B t m)) 4 0 0 4 = q ∧ sy_f σ q (nI (tx_j B t m)) 4 0 0 5 = nI (tx_j B t m) := fun q _ => by
      unfold sy_f
      refine ⟨fun k n p h => ?_, ?_, ?_⟩
      · rw [sx_u_row _ _ _ _ _ _ (by omega), sx_u_row _ _ _ _ _ _ (by omega)]
      · rw [sx_u_at, if_neg (by omega), sx_u_at]; simp
      · rw [sx_u_at]; simp
    unfold sy_
    by_cases cE : tx_o B t m = 17 ∧ me = sy_l s
    · rw [if_pos cE]
      refine ⟨σ, sy_F.rf, ⟨s4, Nat.zero_le _, hm, fun _ => ⟨s5, s3, hT, cE.1⟩, fun z => absurd rfl z, h17⟩, fun Q hQ => ⟨1, head Q 0 (fun _ _ => hQ) (fun z => absurd cE z)⟩⟩
    · rw [if_neg cE]
      -- the three ends of a judgement
      have bad : ∀ r : Nat × Nat, r = (1, m) → (if sy_l s ≤ me then sy_h (tx_o B t m) = 0 else ¬ sy_i (tx_o B t m) (sy_c s me)) → ∃ σ2, sy_F σ σ2 ∧ sy_R B t r σ2 ∧ ∀ Q : sx_M → Prop, Q σ2 → ∃ g, wp_To_scan_b8 Q g (nI (tx_p B t m)) (nI m) σ := fun r er hb => by
        obtain ⟨f1, f2, f3⟩ := told 1 (by decide)
        subst er
        refine ⟨_, f1, ⟨f2, show (1 : Nat) ≤ 2 by decide, hm, fun z => absurd z (show ¬ (1 : Nat) = 0 by decide), fun _ => f3, h17⟩, fun Q hQ => ⟨1, head Q 0 (fun a b => absurd ⟨a, b⟩ cE) (fun _ => ?_)⟩⟩
        unfold wp_To_scan_b59
        refine C_judge hS hm ok (fun _ => ?_) (fun z => absurd hb z) (fun z => absurd hb z)
        rw [f2, if_neg (by decide)]; exact hQ
      have room : ∀ r : Nat × Nat, r = (2, m) → ¬ (if sy_l s ≤ me then sy_h (tx_o B t m) = 0 else ¬ sy_i (tx_o B t m) (sy_c s me)) → (m = 400 ∨ (sy_l s ≤ me ∧ ((tx_o B t m = 0 ∧ p = 7) ∨ (tx_o B t m = 1 ∧ l = 16)))) → ∃ σ2, sy_F σ σ2 ∧ sy_R B t r σ2 ∧ ∀ Q : sx_M → Prop, Q σ2 → ∃ g, wp_To_scan_b8 Q g (nI (tx_p B t m)) (nI m) σ := fun r er hb hr => by
        obtain ⟨f1, f2, f3⟩ := told 2 (by decide)
        subst er
        refine ⟨_, f1, ⟨f2, show (2 : Nat) ≤ 2 by decide, hm, fun z => absurd z (show ¬ (2 : Nat) = 0 by decide), fun _ => f3, h17⟩, fun Q hQ => ⟨1, head Q 0 (fun a b => absurd ⟨a, b⟩ cE) (fun _ => ?_)⟩⟩
        unfold wp_To_scan_b59
        refine C_judge hS hm ok (fun z => absurd z hb) (fun _ _ => ?_) (fun _ z => absurd hr z)
        rw [f2, if_neg (by decide)]; exact hQ
      have go : ∀ (s2 me2 p2 l2 : Nat), s2 = (if sy_l s ≤ me then sy_h (tx_o B t m) else s) → me2 = (if sy_l s ≤ me then 0 else me + 1) → p2 = (if sy_l s ≤ me then p + (if tx_o B t m = 0 then 1 else 0) else p) → l2 = (if sy_l s ≤ me then l + (if tx_o B t m = 1 then 1 else 0) else l) → ¬ (if sy_l s ≤ me then sy_h (tx_o B t m) = 0 else ¬ sy_i (tx_o B t m) (sy_c s me)) → ¬ (m = 400 ∨ (sy_l s ≤ me ∧ ((tx_o B t m = 0 ∧ p = 7) ∨ (tx_o B t m = 1 ∧ l = 16)))) → ∃ σ2, sy_F σ σ2 ∧ sy_R B t (sy_ (tx_o B t) f (m + 1) s2 me2 p2 l2) σ2 ∧ ∀ Q : sx_M → Prop, Q σ2 → ∃ g, wp_To_scan_b8 Q g (nI (tx_p B t m)) (nI m) σ := fun s2 me2 p2 l2 e1 e2 e3 e4 hb hr => by
        have o17 : tx_o B t m ≠ 17 := fun z => by
          rw [z] at hb
          by_cases q : sy_l s ≤ me
          · rw [if_pos q] at hb; exact hb rfl
          · rw [if_neg q] at hb
            refine hb (fun w => ?_)
            unfold sy_i at w
            split at w
            · omega
            · split at w
              · omega
              · split at w
                · omega
                · omega
        have m4 : m < 400 := by
          rcases Nat.lt_or_ge m 400 with z | z
          · exact z
          · exact absurd (Or.inl (by omega)) hr
        have jl := (tx_e_le (B := B) ht jm).1
        obtain ⟨σ1, S1, F1, ⟨k1, k2, k3⟩, k4, wk⟩ := C_keep hS m4 ok (fun q z => hr (Or.inr ⟨q, z⟩)) (x := tx_j B t m) (y := tx_p B t (m + 1)) (n := tx_n B t m) (by unfold tx_n; rw [pe]; omega)
        rw [← e1, ← e2, ← e3, ← e4] at S1
        obtain ⟨σ2, F2, R2, w2⟩ := ih (m + 1) s2 me2 p2 l2 σ1 (by omega) (F1.C hC) (by rw [F1 2 0 0 (by decide)]; exact hB) S1 (fun i hi => by
          by_cases c : i = m
          · rw [c]; exact ⟨k1, k2, k3⟩
          · obtain ⟨d1, d2, d3⟩ := k4 i (by omega)
            unfold tk_C
            rw [d1, d2, d3]; exact hT i (by omega)) (fun i hi => by
          by_cases c : i = m
          · rw [c]; exact o17
          · exact h17 i (by omega)) (by omega)
        refine ⟨σ2, F1.tr F2, R2, fun Q hQ => ?_⟩
        obtain ⟨g, hg⟩ := w2 Q hQ
        refine ⟨g + 1, head Q g (fun a b => absurd ⟨a, b⟩ cE) (fun _ => ?_)⟩
        unfold wp_To_scan_b59
        refine C_judge hS hm ok (fun z => absurd z hb) (fun _ z => absurd z hr) (fun _ _ => ?_)
        rw [s4, if_pos rfl]
        refine wk _ ?_
        rw [nI_1]; exact hg
      by_cases c : sy_l s ≤ me
      · rw [if_pos c]
        simp only [if_pos c] at bad room go
        by_cases c1 : sy_h (tx_o B t m) = 0
        · rw [if_pos c1]; exact bad _ rfl c1
        · rw [if_neg c1]
          by_cases c2 : m = 400 ∨ (tx_o B t m = 0 ∧ p = 7) ∨ (tx_o B t m = 1 ∧ l = 16)
          · rw [if_pos c2]
            exact room _ rfl c1 (by rcases c2 with z | z; exact Or.inl z; exact Or.inr ⟨c, z⟩)
          · rw [if_neg c2]
            exact go _ _ _ _ rfl rfl rfl rfl c1 (fun z => c2 (by rcases z with z | ⟨-, z⟩; exact Or.inl z; exact Or.inr z))
      · rw [if_neg c]
        simp only [if_neg c] at bad room go
        by_cases c1 : sy_i (tx_o B t m) (sy_c s me)
        · rw [if_neg (fun z => z c1)]
          by_cases c2 : m = 400
          · rw [if_pos c2]; exact room _ rfl (fun z => z c1) (Or.inl c2)
          · rw [if_neg c2]
            exact go _ _ _ _ rfl rfl rfl rfl (fun z => z c1) (fun z => by rcases z with z | ⟨z, -⟩; exact c2 z; exact c z)
        · have c1' : ¬ (if sy_c s me = 110 then tx_o B t m = 14 else if sy_c s me = 105 then tx_o B t m = 15 else if sy_c s me = 103 then (tx_o B t m = 12 ∨ tx_o B t m = 13) else tx_o B t m = 16) := c1
          rw [if_pos c1']; exact bad _ rfl c1
/-- the class scans its tape -/
theorem C_scan (hC : tx_C t σ) : ∃ σ2, sy_F σ σ2 ∧ sy_R (σ 2 0 0) t (sy_ (tx_o (σ 2 0 0) t) 401 0 0 0 0 0) σ2 ∧ ∀ Q : sx_M → Prop, Q σ2 → wp_To_scan σ Q := by
  obtain ⟨σ1, e1⟩ : ∃ z, z = sx_u (sx_u (sx_u (sx_u (sx_u (sx_u (sx_u σ 4 0 0 3 0) 4 0 0 4 0) 4 0 0 5 (-1)) 4 0 0 6 0) 4 0 0 7 0) 4 0 0 8 0) 4 0 0 9 0 := ⟨_, rfl⟩
  have F1 : sy_F σ σ1 := fun k n p h => by rw [e1, sx_u_row _ _ _ _ _ _ (by omega), sx_u_row _ _ _ _ _ _ (by omega), sx_u_row _ _ _ _ _ _ (by omega), sx_u_row _ _ _ _ _ _ (by omega), sx_u_row _ _ _ _ _ _ (by omega), sx_u_row _ _ _ _ _ _ (by omega), sx_u_row _ _ _ _ _ _ (by omega)]
  have S1 : sy_S σ1 0 0 0 0 0 := by
    refine ⟨⟨?_, ?_, ?_, ?_, ?_, ?_, ?_⟩, by decide, by decide, by decide, by decide⟩ <;> (rw [e1]; simp only [sx_u_at]; simp; try rfl)
  obtain ⟨σ2, F2, R2, w2⟩ := C_scanLoop (t := t) (B := σ 2 0 0) 401 0 0 0 0 0 σ1 rfl (F1.C hC) (F1 2 0 0 (by decide)) S1 (fun i hi => absurd hi (Nat.not_lt_zero i)) (fun i hi => absurd hi (Nat.not_lt_zero i)) (by decide)
  refine ⟨σ2, F1.tr F2, R2, fun Q hQ => ?_⟩
  unfold wp_To_scan wp_To_clear
  intro _ q; subst q
  intro _ q; subst q
  intro _ q; subst q
  intro _ q; subst q
  intro _ q; subst q
  intro _ q; subst q
  intro _ q; rw [← e1] at q; subst q
  exact w2 Q hQ
end SCANB
