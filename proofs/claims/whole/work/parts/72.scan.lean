/-- shapes: how long, what they want, of which first word -/
def sy_l (s : Nat) : Nat := kx_len.getD s 0
def sy_h (k : Nat) : Nat := if k = 0 then 1 else if k = 1 then 2 else if k = 11 then 3 else if k < 2 then 0 else if 10 < k then 0 else 4
def sy_c (s i : Nat) : Nat := ((kx_byt.getD s []).getD i 0).toBitVec.toNat
def sy_i (k c : Nat) : Prop := if c = 110 then k = 14 else if c = 105 then k = 15 else if c = 103 then (k = 12 ∨ k = 13) else k = 16
theorem sy_tl : ∀ s, s < 6 → sx_tl (nI s) = nI (sy_l s) ∧ sy_l s ≤ 84 := by decide +kernel
theorem sy_tc : ∀ s, s < 5 → ∀ i, i < sy_l s → sx_tc (nI s) (nI i) = nI (sy_c s i) ∧ sy_c s i < 256 := by decide +kernel
theorem sy_te : ∀ s, s < 5 → sx_te (nI s) = if s = 0 then 1 else 0 := by decide +kernel
theorem sy_l0 : ∀ s, s < 5 → (sy_l s = 0 ↔ s = 0) ∧ sy_l s ≤ 4 := by decide +kernel
theorem sy_h_lt (k : Nat) : sy_h k < 5 := by
  unfold sy_h
  split
  · decide
  · split
    · decide
    · split
      · decide
      · split
        · decide
        · split <;> decide
/-- what the texts' syntax says from the m-th token on: fault and token (0: it ends there) -/
def sy_ (o : Nat → Nat) : Nat → Nat → Nat → Nat → Nat → Nat → Nat × Nat
  | 0, m, _, _, _, _ => (0, m)
  | f + 1, m, s, me, p, l =>
    if o m = 17 ∧ me = sy_l s then (0, m)
    else if sy_l s ≤ me then
      (if sy_h (o m) = 0 then (1, m) else if m = 400 ∨ (o m = 0 ∧ p = 7) ∨ (o m = 1 ∧ l = 16) then (2, m) else sy_ o f (m + 1) (sy_h (o m)) 0 (p + if o m = 0 then 1 else 0) (l + if o m = 1 then 1 else 0))
    else (if ¬ (if sy_c s me = 110 then o m = 14 else if sy_c s me = 105 then o m = 15 else if sy_c s me = 103 then (o m = 12 ∨ o m = 13) else o m = 16) then (1, m) else if m = 400 then (2, m) else sy_ o f (m + 1) s (me + 1) p l)
section SCAN
variable {t : Nat} {σ σ2 ρ ρ2 : sx_M} {θ θ2 : sx_L} {B : Nat → Int32}
/-- where the scan stands -/
def sy_S (σ : sx_M) (m s me p l : Nat) : Prop := (σ 4 0 0 3 = nI m ∧ σ 4 0 0 4 = 0 ∧ σ 4 0 0 5 = -1 ∧ σ 4 0 0 6 = nI s ∧ σ 4 0 0 7 = nI me ∧ σ 4 0 0 8 = nI p ∧ σ 4 0 0 9 = nI l) ∧ s < 5 ∧ me ≤ sy_l s ∧ p ≤ 7 ∧ l ≤ 16
def sy_F (σ σ2 : sx_M) : Prop := ∀ k n p, ¬ (k = 4 ∨ k = 5 ∨ k = 6 ∨ k = 7) → σ2 k n p = σ k n p
theorem sy_F.rf : sy_F σ σ := fun _ _ _ _ => rfl
theorem sy_F.tr {a b c : sx_M} (h : sy_F a b) (h2 : sy_F b c) : sy_F a c := fun k n p q => (h2 k n p q).trans (h k n p q)
theorem sy_F.C (h : sy_F σ σ2) (hC : tx_C t σ) : tx_C t σ2 := ⟨hC.1, by rw [h 1 0 0 (by decide)]; exact hC.2⟩
/-- tokens as the class keeps them -/
def tk_C (B : Nat → Int32) (t : Nat) (σ : sx_M) (m : Nat) : Prop := σ 5 0 0 m = nI (tx_o B t m) ∧ σ 6 0 0 m = nI (tx_j B t m) ∧ σ 7 0 0 m = nI (tx_n B t m)
theorem C_shapeOf {k : Nat} (hk : k ≤ 18) {Q : Int32 → sx_M → Prop} (h : Q (nI (sy_h k)) σ) : wp_To_shapeOf (nI k) σ Q := by
  unfold wp_To_shapeOf wp_To_shapeOf_b40 wp_To_shapeOf_b42
  unfold sy_h at h
  have e : ∀ j : Nat, j < 100 → (nI k = nI j ↔ k = j) := fun j hj => nI_eq (by omega) (by omega)
  by_cases c0 : k = 0
  · rw [if_pos c0] at h; rw [if_pos (show nI k = 0 from (e 0 (by decide)).mpr c0)]; exact h
  · rw [if_neg c0] at h; rw [if_neg (show ¬ nI k = 0 from fun z => c0 ((e 0 (by decide)).mp z))]
    by_cases c1 : k = 1
    · rw [if_pos c1] at h; rw [if_pos (show nI k = 1 from (e 1 (by decide)).mpr c1)]; exact h
    · rw [if_neg c1] at h; rw [if_neg (show ¬ nI k = 1 from fun z => c1 ((e 1 (by decide)).mp z))]
      by_cases c2 : k = 11
      · rw [if_pos c2] at h; rw [if_pos (show nI k = 11 from (e 11 (by decide)).mpr c2)]; exact h
      · rw [if_neg c2] at h; rw [if_neg (show ¬ nI k = 11 from fun z => c2 ((e 11 (by decide)).mp z))]
        rw [if_neg (show ¬ k < 2 by omega)] at h
        rw [if_neg (show ¬ nI k < 2 from nI_nlt (b := 2) (by omega) (by omega))]
        by_cases c3 : 10 < k
        · rw [if_pos c3] at h; rw [if_pos (show 10 < nI k from nI_lt (a := 10) c3 (by omega))]; exact h
        · rw [if_neg c3] at h; rw [if_neg (show ¬ 10 < nI k from nI_nlt (a := 10) (by omega) (by decide))]; exact h
theorem C_isOf {k c : Nat} (hk : k ≤ 18) (hc : c < 256) {Q : Int32 → sx_M → Prop} (h1 : sy_i k c → Q 1 σ) (h0 : ¬ sy_i k c → Q 0 σ) : wp_To_isOf (nI k) (nI c) σ Q := by
  unfold wp_To_isOf wp_To_isOf_b17 wp_To_isOf_b35 wp_To_isOf_b54 wp_To_isOf_b73
  unfold sy_i at h1 h0
  have e : ∀ j : Nat, j < 256 → (nI k = nI j ↔ k = j) := fun j hj => nI_eq (by omega) (by omega)
  have e2 : ∀ j : Nat, j < 256 → (nI c = nI j ↔ c = j) := fun j hj => nI_eq (by omega) (by omega)
  by_cases a1 : c = 110
  · rw [if_pos a1] at h1 h0
    rw [if_pos (show nI c = 110 from (e2 110 (by decide)).mpr a1)]
    by_cases z : k = 14
    · rw [if_pos (show nI k = 14 from (e 14 (by decide)).mpr z)]; exact ⟨Or.inr rfl, h1 z⟩
    · rw [if_neg (show ¬ nI k = 14 from fun q => z ((e 14 (by decide)).mp q))]; exact ⟨Or.inl rfl, h0 z⟩
  · rw [if_neg a1] at h1 h0
    rw [if_neg (show ¬ nI c = 110 from fun q => a1 ((e2 110 (by decide)).mp q))]
    by_cases a2 : c = 105
    · rw [if_pos a2] at h1 h0
      rw [if_pos (show nI c = 105 from (e2 105 (by decide)).mpr a2)]
      by_cases z : k = 15
      · rw [if_pos (show nI k = 15 from (e 15 (by decide)).mpr z)]; exact ⟨Or.inr rfl, h1 z⟩
      · rw [if_neg (show ¬ nI k = 15 from fun q => z ((e 15 (by decide)).mp q))]; exact ⟨Or.inl rfl, h0 z⟩
    · rw [if_neg a2] at h1 h0
      rw [if_neg (show ¬ nI c = 105 from fun q => a2 ((e2 105 (by decide)).mp q))]
      by_cases a3 : c = 103
      · rw [if_pos a3] at h1 h0
        rw [if_pos (show nI c = 103 from (e2 103 (by decide)).mpr a3)]
        by_cases z : k = 12
        · rw [if_pos (show nI k = 12 from (e 12 (by decide)).mpr z)]; exact ⟨Or.inr rfl, h1 (Or.inl z)⟩
        · rw [if_neg (show ¬ nI k = 12 from fun q => z ((e 12 (by decide)).mp q))]
          by_cases z2 : k = 13
          · rw [if_pos (show nI k = 13 from (e 13 (by decide)).mpr z2)]; exact ⟨Or.inr rfl, h1 (Or.inr z2)⟩
          · rw [if_neg (show ¬ nI k = 13 from fun q => z2 ((e 13 (by decide)).mp q))]
            exact ⟨Or.inl rfl, h0 (fun q => by rcases q with q | q <;> contradiction)⟩
      · rw [if_neg a3] at h1 h0
        rw [if_neg (show ¬ nI c = 103 from fun q => a3 ((e2 103 (by decide)).mp q))]
        by_cases z : k = 16
        · rw [if_pos (show nI k = 16 from (e 16 (by decide)).mpr z)]; exact ⟨Or.inr rfl, h1 z⟩
        · rw [if_neg (show ¬ nI k = 16 from fun q => z ((e 16 (by decide)).mp q))]; exact ⟨Or.inl rfl, h0 z⟩
theorem C_tooMany {k p l : Nat} (hk : k ≤ 18) (h8 : σ 4 0 0 8 = nI p) (h9 : σ 4 0 0 9 = nI l) (hp : p ≤ 7) (hl : l ≤ 16) {Q : Int32 → sx_M → Prop} (h1 : (k = 0 ∧ p = 7) ∨ (k = 1 ∧ l = 16) → Q 1 σ) (h0 : ¬ ((k = 0 ∧ p = 7) ∨ (k = 1 ∧ l = 16)) → Q 0 σ) : wp_To_isOneTooMany (nI k) σ Q := by
  unfold wp_To_isOneTooMany wp_To_isOneTooMany_b13 wp_To_isOneTooMany_b27 wp_To_isOneTooMany_b31 wp_To_isOneTooMany_b32
  have e : ∀ j : Nat, j < 256 → (nI k = nI j ↔ k = j) := fun j hj => nI_eq (by omega) (by omega)
  rw [h8, h9]
  by_cases a : k = 0
  · rw [if_pos (show nI k = 0 from (e 0 (by decide)).mpr a)]
    by_cases b : p = 7
    · rw [if_pos (show nI p = 7 by rw [b]; rfl)]; exact ⟨Or.inr rfl, h1 (Or.inl ⟨a, b⟩)⟩
    · rw [if_neg (show ¬ nI p = 7 from fun z => b ((nI_eq (b := 7) (by omega) (by decide)).mp z)), if_neg (show ¬ nI k = 1 from fun q => by have := (e 1 (by decide)).mp q; omega)]
      exact ⟨Or.inl rfl, h0 (by omega)⟩
  · rw [if_neg (show ¬ nI k = 0 from fun q => a ((e 0 (by decide)).mp q))]
    by_cases c : k = 1
    · rw [if_pos (show nI k = 1 from (e 1 (by decide)).mpr c)]
      by_cases b : l = 16
      · rw [if_pos (show nI l = 16 by rw [b]; rfl)]; exact ⟨Or.inr rfl, h1 (Or.inr ⟨c, b⟩)⟩
      · rw [if_neg (show ¬ nI l = 16 from fun z => b ((nI_eq (b := 16) (by omega) (by decide)).mp z))]
        exact ⟨Or.inl rfl, h0 (by omega)⟩
    · rw [if_neg (show ¬ nI k = 1 from fun q => c ((e 1 (by decide)).mp q))]
      exact ⟨Or.inl rfl, h0 (by omega)⟩
/-- a fault of the syntax is told -/
def sy_f (σ : sx_M) (f : Int32) (x : Int32) : sx_M := sx_u (sx_u σ 4 0 0 4 f) 4 0 0 5 x
/-- the class judges a token -/
theorem C_judge {m s me p l : Nat} (hS : sy_S σ m s me p l) (hm : m ≤ 400) {k : Nat} (hk : k ≤ 18) {x : Int32} {Q : sx_M → Prop}
    (j1 : (if sy_l s ≤ me then sy_h k = 0 else ¬ sy_i k (sy_c s me)) → Q (sy_f σ 1 x))
    (j2 : ¬ (if sy_l s ≤ me then sy_h k = 0 else ¬ sy_i k (sy_c s me)) → (m = 400 ∨ (sy_l s ≤ me ∧ ((k = 0 ∧ p = 7) ∨ (k = 1 ∧ l = 16)))) → Q (sy_f σ 2 x))
    (j0 : ¬ (if sy_l s ≤ me then sy_h k = 0 else ¬ sy_i k (sy_c s me)) → ¬ (m = 400 ∨ (sy_l s ≤ me ∧ ((k = 0 ∧ p = 7) ∨ (k = 1 ∧ l = 16)))) → Q σ) : wp_To_judge (nI k) x σ Q := by
  obtain ⟨⟨s3, s4, s5, s6, s7, s8, s9⟩, hs, hme, hp, hl⟩ := hS
  obtain ⟨tl, tl84⟩ := sy_tl s (by omega)
  have is6 : vp_in (nI s) 6 := vp_in_nI (by omega) (by decide)
  -- behind the fit
  have fit : ∀ w : Int32, (w = 1 ∧ sy_l s ≤ me) ∨ (w = 0 ∧ ¬ sy_l s ≤ me) → ¬ (if sy_l s ≤ me then sy_h k = 0 else ¬ sy_i k (sy_c s me)) → wp_To_judge_b57 Q (nI k) x w 1 σ := fun w hw hf => by
    unfold wp_To_judge_b57 wp_To_judge_b99 wp_To_judge_b109
    rw [if_neg (show ¬ (1 : Int32) = 0 by decide), s3]
    by_cases c : m = 400
    · rw [if_pos (show 400 ≤ nI m from nI_le (a := 400) (by omega) (by omega))]
      intro _ q; subst q
      intro _ q; subst q
      exact j2 hf (Or.inl c)
    · rw [if_neg (show ¬ 400 ≤ nI m from nI_ge (b := 400) (by omega) (by decide))]
      rcases hw with ⟨rfl, hw⟩ | ⟨rfl, hw⟩
      · rw [if_neg (by decide)]
        refine C_tooMany hk s8 s9 hp hl (fun z => ?_) (fun z => ?_)
        · rw [if_neg (by decide)]
          intro _ q; subst q
          intro _ q; subst q
          exact j2 hf (Or.inr ⟨hw, z⟩)
        · rw [if_pos rfl]
          exact j0 hf (fun q => by rcases q with q | ⟨-, q⟩ <;> contradiction)
      · rw [if_pos rfl]
        exact j0 hf (fun q => by rcases q with q | ⟨q, -⟩ <;> contradiction)
  have bad : ∀ w : Int32, (if sy_l s ≤ me then sy_h k = 0 else ¬ sy_i k (sy_c s me)) → wp_To_judge_b57 Q (nI k) x w 0 σ := fun w hf => by
    unfold wp_To_judge_b57 wp_To_judge_b109
    rw [if_pos rfl]
    intro _ q; subst q
    intro _ q; subst q
    exact j1 hf
  unfold wp_To_judge wp_To_judge_b19
  rw [s6, s7, tl]
  refine ⟨is6, ?_⟩
  by_cases c : me < sy_l s
  · have nc : ¬ sy_l s ≤ me := by omega
    rw [if_pos (nI_lt c (by omega)), if_pos rfl, nI_clamp (n := s) (by omega)]
    obtain ⟨tc, tcl⟩ := sy_tc s hs me c
    refine ⟨⟨is6, vp_in_nI c (Nat.lt_of_le_of_lt tl84 (by decide))⟩, ?_⟩
    rw [tc]
    refine C_isOf hk tcl (fun z => ?_) (fun z => ?_)
    · exact fit 0 (Or.inr ⟨rfl, nc⟩) (by rw [if_neg nc]; exact fun q => q z)
    · exact bad 0 (by rw [if_neg nc]; exact z)
  · have yc : sy_l s ≤ me := by omega
    rw [if_neg (nI_nlt yc (by omega)), if_neg (by decide)]
    refine C_shapeOf hk ?_
    have hh := sy_h_lt k
    refine ⟨vp_in_nI (by omega) (by decide), ?_⟩
    rw [sy_te _ hh]
    by_cases z : sy_h k = 0
    · rw [if_pos z, if_neg (by decide)]
      exact bad 1 (by rw [if_pos yc]; exact z)
    · rw [if_neg z, if_pos rfl]
      exact fit 1 (Or.inl ⟨rfl, yc⟩) (by rw [if_pos yc]; exact z)
/-- the class keeps a token -/
theorem C_keep {m s me p l : Nat} (hS : sy_S σ m s me p l) (hm : m < 400) {k : Nat} (hk : k ≤ 18) (hb : sy_l s ≤ me → ¬ ((k = 0 ∧ p = 7) ∨ (k = 1 ∧ l = 16))) {x y n : Nat} (hxy : y = x + n) :
    ∃ σ2, sy_S σ2 (m + 1) (if sy_l s ≤ me then sy_h k else s) (if sy_l s ≤ me then 0 else me + 1) (if sy_l s ≤ me then p + (if k = 0 then 1 else 0) else p) (if sy_l s ≤ me then l + (if k = 1 then 1 else 0) else l) ∧ sy_F σ σ2 ∧ (σ2 5 0 0 m = nI k ∧ σ2 6 0 0 m = nI x ∧ σ2 7 0 0 m = nI n) ∧ (∀ i, i < m → σ2 5 0 0 i = σ 5 0 0 i ∧ σ2 6 0 0 i = σ 6 0 0 i ∧ σ2 7 0 0 i = σ 7 0 0 i) ∧ ∀ Q : sx_M → Prop, Q σ2 → wp_To_keep (nI k) (nI x) (nI y) σ Q := by
  obtain ⟨⟨s3, s4, s5, s6, s7, s8, s9⟩, hs, hme, hp, hl⟩ := hS
  obtain ⟨tl, tl84⟩ := sy_tl s (by omega)
  have is6 : vp_in (nI s) 6 := vp_in_nI (by omega) (by decide)
  have sub : nI y - nI x = nI n := by rw [hxy, pk_sub (by omega)]; congr 1; omega
  have cm : (nI m).toNatClampNeg = m := nI_clamp (by omega)
  have im : vp_in (nI m) 400 := vp_in_nI hm (by decide)
  -- the last of it: from a state whose own fields are told
  have last : ∀ σ1 : sx_M, σ1 4 0 0 3 = nI m → ∃ σ2, (∀ j, ¬ j = 3 → σ2 4 0 0 j = σ1 4 0 0 j) ∧ σ2 4 0 0 3 = nI (m + 1) ∧ (∀ k n p, ¬ (k = 4 ∨ k = 5 ∨ k = 6 ∨ k = 7) → σ2 k n p = σ1 k n p) ∧ (σ2 5 0 0 m = nI k ∧ σ2 6 0 0 m = nI x ∧ σ2 7 0 0 m = nI n) ∧ (∀ i, i < m → σ2 5 0 0 i = σ1 5 0 0 i ∧ σ2 6 0 0 i = σ1 6 0 0 i ∧ σ2 7 0 0 i = σ1 7 0 0 i) ∧ ∀ Q : sx_M → Prop, Q σ2 → wp_To_keep_b77 Q (nI k) (nI x) (nI y) σ1 := by
    intro σ1 h3
    refine ⟨sx_u (sx_u (sx_u (sx_u σ1 5 0 0 m (nI k)) 6 0 0 m (nI x)) 7 0 0 m (nI n)) 4 0 0 3 (nI (m + 1)), fun j hj => ?_, ?_, fun k n p h => ?_, ⟨?_, ?_, ?_⟩, fun i hi => ⟨?_, ?_, ?_⟩, fun Q hQ => ?_⟩
    · rw [sx_u_at, if_neg (by omega), sx_u_row _ _ _ _ _ _ (by decide), sx_u_row _ _ _ _ _ _ (by decide), sx_u_row _ _ _ _ _ _ (by decide)]
    · rw [sx_u_at]; simp
    · rw [sx_u_row _ _ _ _ _ _ (by omega), sx_u_row _ _ _ _ _ _ (by omega), sx_u_row _ _ _ _ _ _ (by omega), sx_u_row _ _ _ _ _ _ (by omega)]
    · rw [sx_u_row _ _ _ _ _ _ (by decide), sx_u_row _ _ _ _ _ _ (by decide), sx_u_row _ _ _ _ _ _ (by decide), sx_u_at]; simp
    · rw [sx_u_row _ _ _ _ _ _ (by decide), sx_u_row _ _ _ _ _ _ (by decide), sx_u_at]; simp
    · rw [sx_u_row _ _ _ _ _ _ (by decide), sx_u_at]; simp
    · rw [sx_u_row _ _ _ _ _ _ (by decide), sx_u_row _ _ _ _ _ _ (by decide), sx_u_row _ _ _ _ _ _ (by decide), sx_u_at, if_neg (by omega)]
    · rw [sx_u_row _ _ _ _ _ _ (by decide), sx_u_row _ _ _ _ _ _ (by decide), sx_u_at, if_neg (by omega), sx_u_row _ _ _ _ _ _ (by decide)]
    · rw [sx_u_row _ _ _ _ _ _ (by decide), sx_u_at, if_neg (by omega), sx_u_row _ _ _ _ _ _ (by decide), sx_u_row _ _ _ _ _ _ (by decide)]
    · unfold wp_To_keep_b77 wp_To_keep_b129
      rw [h3, if_neg (show ¬ 400 ≤ nI m from nI_ge (b := 400) hm (by decide)), cm]
      refine ⟨im, ?_⟩
      intro _ q; subst q
      rw [sx_u_row _ _ _ _ _ _ (show ¬ (4 = 5 ∧ 0 = 0 ∧ 0 = 0) by decide), h3, cm]
      refine ⟨im, ?_⟩
      intro _ q; subst q
      rw [sx_u_row _ _ _ _ _ _ (show ¬ (4 = 6 ∧ 0 = 0 ∧ 0 = 0) by decide), sx_u_row _ _ _ _ _ _ (show ¬ (4 = 5 ∧ 0 = 0 ∧ 0 = 0) by decide), h3, cm]
      refine ⟨im, ?_⟩
      intro _ q; subst q
      rw [sx_u_row _ _ _ _ _ _ (show ¬ (4 = 7 ∧ 0 = 0 ∧ 0 = 0) by decide), sx_u_row _ _ _ _ _ _ (show ¬ (4 = 6 ∧ 0 = 0 ∧ 0 = 0) by decide), sx_u_row _ _ _ _ _ _ (show ¬ (4 = 5 ∧ 0 = 0 ∧ 0 = 0) by decide), h3, sub, nI_1]
      intro _ q; subst q
      exact hQ
  by_cases c : me < sy_l s
  · have nc : ¬ sy_l s ≤ me := by omega
    simp only [if_neg nc]
    obtain ⟨σ1, e1⟩ : ∃ z, z = sx_u σ 4 0 0 7 (nI (me + 1)) := ⟨_, rfl⟩
    have o1 : ∀ j, ¬ j = 7 → σ1 4 0 0 j = σ 4 0 0 j := fun j hj => by rw [e1, sx_u_at, if_neg (by omega)]
    have f1 : ∀ k n p, ¬ k = 4 → σ1 k n p = σ k n p := fun k n p h => by rw [e1, sx_u_row _ _ _ _ _ _ (by omega)]
    obtain ⟨σ2, b1, b2, b3, b4, b5, b6⟩ := last σ1 (by rw [o1 3 (by decide)]; exact s3)
    refine ⟨σ2, ⟨⟨b2, ?_, ?_, ?_, ?_, ?_, ?_⟩, hs, by omega, hp, hl⟩, fun k n p h => by rw [b3 k n p h]; exact f1 k n p (by omega), b4, fun i hi => ?_, fun Q hQ => ?_⟩
    · rw [b1 4 (by decide), o1 4 (by decide)]; exact s4
    · rw [b1 5 (by decide), o1 5 (by decide)]; exact s5
    · rw [b1 6 (by decide), o1 6 (by decide)]; exact s6
    · rw [b1 7 (by decide), e1, sx_u_at]; simp
    · rw [b1 8 (by decide), o1 8 (by decide)]; exact s8
    · rw [b1 9 (by decide), o1 9 (by decide)]; exact s9
    · obtain ⟨d1, d2, d3⟩ := b5 i hi
      rw [d1, d2, d3, f1 5 0 0 (by decide), f1 6 0 0 (by decide), f1 7 0 0 (by decide)]; exact ⟨rfl, rfl, rfl⟩
    · unfold wp_To_keep
      rw [s6, s7, tl]
      refine ⟨is6, ?_⟩
      rw [if_pos (nI_lt c (by omega)), nI_1]
      intro _ q; rw [← e1] at q; subst q
      exact b6 Q hQ
  · have yc : sy_l s ≤ me := by omega
    have hb' := hb yc
    simp only [if_pos yc]
    have hh := sy_h_lt k
    have e0 : ∀ j : Nat, j < 256 → (nI k = nI j ↔ k = j) := fun j hj => nI_eq (by omega) (by omega)
    obtain ⟨σ1, e1⟩ : ∃ z, z = sx_u (sx_u (sx_u (sx_u σ 4 0 0 6 (nI (sy_h k))) 4 0 0 7 0) 4 0 0 8 (nI (p + if k = 0 then 1 else 0))) 4 0 0 9 (nI (l + if k = 1 then 1 else 0)) := ⟨_, rfl⟩
    have o1 : ∀ j, ¬ (j = 6 ∨ j = 7 ∨ j = 8 ∨ j = 9) → σ1 4 0 0 j = σ 4 0 0 j := fun j hj => by rw [e1, sx_u_at, if_neg (by omega), sx_u_at, if_neg (by omega), sx_u_at, if_neg (by omega), sx_u_at, if_neg (by omega)]
    have f1 : ∀ k n p, ¬ k = 4 → σ1 k n p = σ k n p := fun k n p h => by rw [e1, sx_u_row _ _ _ _ _ _ (by omega), sx_u_row _ _ _ _ _ _ (by omega), sx_u_row _ _ _ _ _ _ (by omega), sx_u_row _ _ _ _ _ _ (by omega)]
    obtain ⟨σ2, b1, b2, b3, b4, b5, b6⟩ := last σ1 (by rw [o1 3 (by decide)]; exact s3)
    refine ⟨σ2, ⟨⟨b2, ?_, ?_, ?_, ?_, ?_, ?_⟩, hh, Nat.zero_le _, ?_, ?_⟩, fun k n p h => by rw [b3 k n p h]; exact f1 k n p (by omega), b4, fun i hi => ?_, fun Q hQ => ?_⟩
    · rw [b1 4 (by decide), o1 4 (by decide)]; exact s4
    · rw [b1 5 (by decide), o1 5 (by decide)]; exact s5
    · rw [b1 6 (by decide), e1, sx_u_at, if_neg (by omega), sx_u_at, if_neg (by omega), sx_u_at, if_neg (by omega), sx_u_at]; simp
    · rw [b1 7 (by decide), e1, sx_u_at, if_neg (by omega), sx_u_at, if_neg (by omega), sx_u_at]; simp; rfl
    · rw [b1 8 (by decide), e1, sx_u_at, if_neg (by omega), sx_u_at]; simp
    · rw [b1 9 (by decide), e1, sx_u_at]; simp
    · by_cases z : k = 0
      · rw [if_pos z]; omega
      · rw [if_neg z]; omega
    · by_cases z : k = 1
      · rw [if_pos z]; omega
      · rw [if_neg z]; omega
    · obtain ⟨d1, d2, d3⟩ := b5 i hi
      rw [d1, d2, d3, f1 5 0 0 (by decide), f1 6 0 0 (by decide), f1 7 0 0 (by decide)]; exact ⟨rfl, rfl, rfl⟩
    · unfold wp_To_keep
      rw [s6, s7, tl]
      refine ⟨is6, ?_⟩
      rw [if_neg (nI_nlt yc (by omega))]
      refine C_shapeOf hk ?_
      intro σa qa
      intro σb qb
      have r8 : σb 4 0 0 8 = nI p := by rw [qb, sx_u_at, if_neg (by omega), qa, sx_u_at, if_neg (by omega)]; exact s8
      have r9 : σb 4 0 0 9 = nI l := by rw [qb, sx_u_at, if_neg (by omega), qa, sx_u_at, if_neg (by omega)]; exact s9
      have K : ∀ a b : Int32, a = nI (if k = 0 then 1 else 0) → b = nI (if k = 1 then 1 else 0) → ∀ σc : sx_M, σc = sx_u σb 4 0 0 8 (nI p + a) → wp_To_keep_b60 Q (nI k) (nI x) (nI y) (σc 4 0 0 9) b σc := fun a b ea eb σc qc => by
        unfold wp_To_keep_b60
        intro σd qd
        have r9' : σc 4 0 0 9 = nI l := by rw [qc, sx_u_at, if_neg (by omega)]; exact r9
        have ed : σd = σ1 := by rw [qd, r9', qc, qb, qa, e1, ea, eb, nI_add, nI_add]
        rw [ed]; exact b6 Q hQ
      by_cases z0 : k = 0
      · rw [if_pos (show nI k = 0 from (e0 0 (by decide)).mpr z0)]
        unfold wp_To_keep_b41
        rw [r8]
        intro σc qc
        rw [if_neg (show ¬ nI k = 1 from fun q => by have := (e0 1 (by decide)).mp q; omega)]
        exact K 1 0 (by rw [if_pos z0]; rfl) (by rw [if_neg (by omega)]; rfl) σc qc
      · rw [if_neg (show ¬ nI k = 0 from fun q => z0 ((e0 0 (by decide)).mp q))]
        unfold wp_To_keep_b41
        rw [r8]
        intro σc qc
        by_cases z1 : k = 1
        · rw [if_pos (show nI k = 1 from (e0 1 (by decide)).mpr z1)]
          exact K 0 1 (by rw [if_neg z0]; rfl) (by rw [if_pos z1]; rfl) σc qc
        · rw [if_neg (show ¬ nI k = 1 from fun q => z1 ((e0 1 (by decide)).mp q))]
          exact K 0 0 (by rw [if_neg z0]; rfl) (by rw [if_neg z1]; rfl) σc qc
end SCAN
