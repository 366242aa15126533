/-- runs of what is so: how far from i on -/
def rn_ (f : Nat → Prop) [DecidablePred f] : Nat → Nat → Nat
  | 0, i => i
  | k + 1, i => if f i then rn_ f k (i + 1) else i
theorem rn_spec (f : Nat → Prop) [DecidablePred f] {t : Nat} (ht : ∀ j, t ≤ j → ¬ f j) : ∀ (k i : Nat), t ≤ i + k → i ≤ rn_ f k i ∧ (∀ j, i ≤ j → j < rn_ f k i → f j) ∧ ¬ f (rn_ f k i) ∧ (i ≤ t → rn_ f k i ≤ t)
  | 0, i, h => ⟨Nat.le_refl _, fun j h1 h2 => absurd h1 (Nat.not_le.mpr h2), ht i h, fun q => q⟩
  | k + 1, i, h => by
    unfold rn_
    by_cases c : f i
    · rw [if_pos c]
      obtain ⟨a1, a2, a3, a4⟩ := rn_spec f ht k (i + 1) (by omega)
      have hi : i < t := Nat.lt_of_not_le fun z => ht i z c
      refine ⟨by omega, fun j h1 h2 => ?_, a3, fun _ => a4 (by omega)⟩
      by_cases e : j = i
      · rw [e]; exact c
      · exact a2 j (by omega) h2
    · rw [if_neg c]
      exact ⟨Nat.le_refl _, fun j h1 h2 => absurd h1 (Nat.not_le.mpr h2), c, fun q => q⟩
/-- letters, digits, blanks -/
abbrev tx_l (c : Nat) : Prop := 97 ≤ c ∧ c ≤ 122
abbrev tx_d (c : Nat) : Prop := 48 ≤ c ∧ c ≤ 57
abbrev tx_b (c : Nat) : Prop := c = 9 ∨ c = 10 ∨ c = 13 ∨ c = 32
/-- the byte at i of a text of t bytes; 256: behind its end -/
def tx_c (B : Nat → Int32) (t i : Nat) : Nat := if i < t then (B i).toBitVec.toNat % 256 else 256
theorem tx_c_in {B : Nat → Int32} {t i : Nat} (h : i < t) : tx_c B t i = (B i).toBitVec.toNat % 256 := if_pos h
theorem tx_c_out {B : Nat → Int32} {t i : Nat} (h : t ≤ i) : tx_c B t i = 256 := if_neg (by omega)
theorem tx_c_lt {B : Nat → Int32} {t i : Nat} (h : i < t) : tx_c B t i < 256 := by rw [tx_c_in h]; exact Nat.mod_lt _ (by decide)
theorem tx_c_le (B : Nat → Int32) (t i : Nat) : tx_c B t i ≤ 256 := by
  by_cases h : i < t
  · exact Nat.le_of_lt (tx_c_lt h)
  · rw [tx_c_out (by omega)]; exact Nat.le_refl _
theorem tx_255 (x : Int32) : x &&& 255 = nI (x.toBitVec.toNat % 256) := pk_and x 8 (by decide)
theorem tx_nar (x : Int32) : (vp_nar .byte x).toBitVec.toNat % 256 = x.toBitVec.toNat % 256 := by
  have e : vp_nar .byte x = x.toInt8.toInt32 := rfl
  have h1 : (x.toInt8.toInt32).toBitVec.setWidth 8 = x.toBitVec.setWidth 8 := by
    rw [Int8.toBitVec_toInt32, Int32.toBitVec_toInt8]
    apply BitVec.eq_of_getLsbD_eq
    intro i hi
    simp only [BitVec.getLsbD_setWidth, BitVec.getLsbD_signExtend]
    have h2 : i < 32 := by omega
    simp [hi, h2]
  have h3 := congrArg BitVec.toNat h1
  rw [BitVec.toNat_setWidth, BitVec.toNat_setWidth] at h3
  rw [e]; exact h3
/-- runs in a text -/
def tx_r (f : Nat → Prop) [DecidablePred f] (B : Nat → Int32) (t i : Nat) : Nat := rn_ (fun j => f (tx_c B t j)) 2001 i
theorem tx_r_spec (f : Nat → Prop) [DecidablePred f] (hf : ¬ f 256) (B : Nat → Int32) {t i : Nat} (ht : t ≤ 2000) : i ≤ tx_r f B t i ∧ (∀ j, i ≤ j → j < tx_r f B t i → f (tx_c B t j)) ∧ ¬ f (tx_c B t (tx_r f B t i)) ∧ (i ≤ t → tx_r f B t i ≤ t) :=
  rn_spec (fun j => f (tx_c B t j)) (t := t) (fun j hj => by rw [tx_c_out hj]; exact hf) 2001 i (by omega)
/-- the text's bytes of both sides -/
def tx_C (t : Nat) (σ : sx_M) : Prop := t ≤ 2000 ∧ σ 1 0 0 1 = nI t
def tx_R (t : Nat) (B : Nat → Int32) (ρ : sx_M) : Prop := t ≤ 2000 ∧ ρ 50 0 0 4 = nI t ∧ ∀ i, i < t → (ρ 52 0 0 i).toBitVec.toNat % 256 = (B i).toBitVec.toNat % 256
section BYTES
variable {t : Nat} {σ ρ : sx_M} {θ : sx_L} {B : Nat → Int32}
theorem C_byteAt (hC : tx_C t σ) {x : Int32} {i : Nat} (hx : x = nI i) (hi : i < 2 ^ 30) {Q : Int32 → sx_M → Prop} (h : Q (if i < t then nI (tx_c (σ 2 0 0) t i) else -1) σ) : wp_Ta_byteAt x σ Q := by
  obtain ⟨ht, h1⟩ := hC
  subst hx
  unfold wp_Ta_byteAt wp_Ta_byteAt_b25 wp_Ta_byteAt_b26
  rw [if_neg (nI_pos (by omega)), h1]
  by_cases c : i < t
  · rw [if_pos c, tx_c_in c] at h
    rw [if_neg (nI_ge c (by omega)), nI_clamp (n := i) (by omega), tx_255]
    exact ⟨vp_in_nI (by omega) (by decide), h⟩
  · rw [if_neg c] at h
    rw [if_pos (nI_le (by omega) (by omega))]; exact h
theorem R_byteAt (hR : tx_R t B ρ) {x : Int32} {i : Nat} (hx : x = nI i) (hi : i < 2 ^ 30) {Q : Int32 → sx_M → sx_L → Prop} (h : Q (if i < t then nI (tx_c B t i) else 0) ρ θ) : wp_Mo_byteAt x ρ θ Q := by
  obtain ⟨ht, h1, h2⟩ := hR
  subst hx
  unfold wp_Mo_byteAt wp_Mo_byteAt_b22
  rw [h1]
  by_cases c : i < t
  · rw [if_pos c, tx_c_in c] at h
    rw [if_neg (nI_ge c (by omega)), nI_clamp (n := i) (by omega), tx_255, h2 i c]
    exact ⟨vp_in_nI (by omega) (by decide), h⟩
  · rw [if_neg c] at h
    rw [if_pos (nI_le (by omega) (by omega))]; exact h
theorem C_isLetter (hC : tx_C t σ) {x : Int32} {i : Nat} (hx : x = nI i) (hi : i < 2 ^ 30) {Q : Int32 → sx_M → Prop} (h1 : tx_l (tx_c (σ 2 0 0) t i) → Q 1 σ) (h0 : ¬ tx_l (tx_c (σ 2 0 0) t i) → Q 0 σ) : wp_Ta_isLetter x σ Q := by
  unfold wp_Ta_isLetter wp_Ta_isLetter_b24 wp_Ta_isLetter_b25
  refine C_byteAt hC hx hi ?_
  by_cases c : i < t
  · have lt := tx_c_lt (B := σ 2 0 0) c
    rw [if_pos c]
    by_cases c1 : tx_c (σ 2 0 0) t i < 97
    · rw [if_pos (show nI (tx_c (σ 2 0 0) t i) < 97 from nI_lt (b := 97) c1 (by decide))]
      exact ⟨Or.inl rfl, h0 fun z => by have := z.1; omega⟩
    · rw [if_neg (show ¬ nI (tx_c (σ 2 0 0) t i) < 97 from nI_nlt (b := 97) (by omega) (by omega))]
      refine C_byteAt hC hx hi ?_
      rw [if_pos c]
      by_cases c2 : 122 < tx_c (σ 2 0 0) t i
      · rw [if_pos (show 122 < nI (tx_c (σ 2 0 0) t i) from nI_lt (a := 122) c2 (by omega))]
        exact ⟨Or.inl rfl, h0 fun z => by have := z.2; omega⟩
      · rw [if_neg (show ¬ 122 < nI (tx_c (σ 2 0 0) t i) from nI_nlt (a := 122) (by omega) (by decide))]
        exact ⟨Or.inr rfl, h1 ⟨by omega, by omega⟩⟩
  · rw [if_neg c, if_pos (by decide)]
    exact ⟨Or.inl rfl, h0 fun z => by rw [tx_c_out (by omega)] at z; have := z.2; omega⟩
theorem C_isDigit (hC : tx_C t σ) {x : Int32} {i : Nat} (hx : x = nI i) (hi : i < 2 ^ 30) {Q : Int32 → sx_M → Prop} (h1 : tx_d (tx_c (σ 2 0 0) t i) → Q 1 σ) (h0 : ¬ tx_d (tx_c (σ 2 0 0) t i) → Q 0 σ) : wp_Ta_isDigit x σ Q := by
  unfold wp_Ta_isDigit wp_Ta_isDigit_b24 wp_Ta_isDigit_b25
  refine C_byteAt hC hx hi ?_
  by_cases c : i < t
  · have lt := tx_c_lt (B := σ 2 0 0) c
    rw [if_pos c]
    by_cases c1 : tx_c (σ 2 0 0) t i < 48
    · rw [if_pos (show nI (tx_c (σ 2 0 0) t i) < 48 from nI_lt (b := 48) c1 (by decide))]
      exact ⟨Or.inl rfl, h0 fun z => by have := z.1; omega⟩
    · rw [if_neg (show ¬ nI (tx_c (σ 2 0 0) t i) < 48 from nI_nlt (b := 48) (by omega) (by omega))]
      refine C_byteAt hC hx hi ?_
      rw [if_pos c]
      by_cases c2 : 57 < tx_c (σ 2 0 0) t i
      · rw [if_pos (show 57 < nI (tx_c (σ 2 0 0) t i) from nI_lt (a := 57) c2 (by omega))]
        exact ⟨Or.inl rfl, h0 fun z => by have := z.2; omega⟩
      · rw [if_neg (show ¬ 57 < nI (tx_c (σ 2 0 0) t i) from nI_nlt (a := 57) (by omega) (by decide))]
        exact ⟨Or.inr rfl, h1 ⟨by omega, by omega⟩⟩
  · rw [if_neg c, if_pos (by decide)]
    exact ⟨Or.inl rfl, h0 fun z => by rw [tx_c_out (by omega)] at z; have := z.2; omega⟩
theorem C_isBlank (hC : tx_C t σ) {x : Int32} {i : Nat} (hx : x = nI i) (hi : i < 2 ^ 30) {Q : Int32 → sx_M → Prop} (h1 : tx_b (tx_c (σ 2 0 0) t i) → Q 1 σ) (h0 : ¬ tx_b (tx_c (σ 2 0 0) t i) → Q 0 σ) : wp_Ta_isBlank x σ Q := by
  unfold wp_Ta_isBlank wp_Ta_isBlank_b30 wp_Ta_isBlank_b35
  refine C_byteAt hC hx hi ?_
  by_cases c : i < t
  · have lt := tx_c_lt (B := σ 2 0 0) c
    rw [if_pos c]
    generalize tx_c (σ 2 0 0) t i = b at *
    have e : ∀ k : Nat, k < 256 → (nI b = nI k ↔ b = k) := fun k hk => nI_eq (by omega) (by omega)
    by_cases c1 : b = 9
    · rw [if_pos (show nI b = 9 from (e 9 (by decide)).mpr c1)]; exact ⟨Or.inr rfl, h1 (Or.inl c1)⟩
    · rw [if_neg (show ¬ nI b = 9 from fun z => c1 ((e 9 (by decide)).mp z))]
      by_cases c2 : b = 10
      · rw [if_pos (show nI b = 10 from (e 10 (by decide)).mpr c2)]; exact ⟨Or.inr rfl, h1 (Or.inr (Or.inl c2))⟩
      · rw [if_neg (show ¬ nI b = 10 from fun z => c2 ((e 10 (by decide)).mp z))]
        by_cases c3 : b = 13
        · rw [if_pos (show nI b = 13 from (e 13 (by decide)).mpr c3)]; exact ⟨Or.inr rfl, h1 (Or.inr (Or.inr (Or.inl c3)))⟩
        · rw [if_neg (show ¬ nI b = 13 from fun z => c3 ((e 13 (by decide)).mp z))]
          by_cases c4 : b = 32
          · rw [if_pos (show nI b = 32 from (e 32 (by decide)).mpr c4)]; exact ⟨Or.inr rfl, h1 (Or.inr (Or.inr (Or.inr c4)))⟩
          · rw [if_neg (show ¬ nI b = 32 from fun z => c4 ((e 32 (by decide)).mp z))]
            exact ⟨Or.inl rfl, h0 fun z => by rcases z with z | z | z | z <;> contradiction⟩
  · rw [if_neg c, if_neg (by decide), if_neg (by decide), if_neg (by decide), if_neg (by decide)]
    exact ⟨Or.inl rfl, h0 fun z => by rw [tx_c_out (by omega)] at z; rcases z with z | z | z | z <;> exact absurd z (by decide)⟩
theorem R_isLetter {x : Int32} {b : Nat} (hx : x = nI b) (hb : b < 256) {Q : Int32 → sx_M → sx_L → Prop} (h1 : tx_l b → Q 1 ρ θ) (h0 : ¬ tx_l b → Q 0 ρ θ) : wp_Mo_isLetter x ρ θ Q := by
  subst hx
  unfold wp_Mo_isLetter wp_Mo_isLetter_b16 wp_Mo_isLetter_b17
  by_cases c1 : b < 97
  · rw [if_pos (show nI b < 97 from nI_lt (b := 97) c1 (by decide))]
    exact ⟨Or.inl rfl, h0 fun z => by have := z.1; omega⟩
  · rw [if_neg (show ¬ nI b < 97 from nI_nlt (b := 97) (by omega) (by omega))]
    by_cases c2 : 122 < b
    · rw [if_pos (show 122 < nI b from nI_lt (a := 122) c2 (by omega))]
      exact ⟨Or.inl rfl, h0 fun z => by have := z.2; omega⟩
    · rw [if_neg (show ¬ 122 < nI b from nI_nlt (a := 122) (by omega) (by decide))]
      exact ⟨Or.inr rfl, h1 ⟨by omega, by omega⟩⟩
theorem R_isDigit {x : Int32} {b : Nat} (hx : x = nI b) (hb : b < 256) {Q : Int32 → sx_M → sx_L → Prop} (h1 : tx_d b → Q 1 ρ θ) (h0 : ¬ tx_d b → Q 0 ρ θ) : wp_Mo_isDigit x ρ θ Q := by
  subst hx
  unfold wp_Mo_isDigit wp_Mo_isDigit_b16 wp_Mo_isDigit_b17
  by_cases c1 : b < 48
  · rw [if_pos (show nI b < 48 from nI_lt (b := 48) c1 (by decide))]
    exact ⟨Or.inl rfl, h0 fun z => by have := z.1; omega⟩
  · rw [if_neg (show ¬ nI b < 48 from nI_nlt (b := 48) (by omega) (by omega))]
    by_cases c2 : 57 < b
    · rw [if_pos (show 57 < nI b from nI_lt (a := 57) c2 (by omega))]
      exact ⟨Or.inl rfl, h0 fun z => by have := z.2; omega⟩
    · rw [if_neg (show ¬ 57 < nI b from nI_nlt (a := 57) (by omega) (by decide))]
      exact ⟨Or.inr rfl, h1 ⟨by omega, by omega⟩⟩
/-- the class: past blanks -/
theorem C_blanks (hC : tx_C t σ) {i : Nat} (hi : i ≤ t) {Q : Int32 → sx_M → Prop} (h : Q (nI (tx_r tx_b (σ 2 0 0) t i)) σ) : wp_Ta_pastBlanks (nI i) σ Q := by
  obtain ⟨ht, h1⟩ := id hC
  obtain ⟨-, s2, s3, s4⟩ := tx_r_spec tx_b (by decide) (σ 2 0 0) (t := t) (i := i) ht
  have hle := (tx_r_spec tx_b (by decide) (σ 2 0 0) (t := t) (i := i) ht).1
  generalize tx_r tx_b (σ 2 0 0) t i = e at *
  have et := s4 hi
  have go : ∀ (d j : Nat), j + d = e → i ≤ j → ∃ f, wp_Ta_pastBlanks_b2 Q f (nI j) σ := by
    intro d
    induction d with
    | zero =>
      intro j hj hij
      have ej : j = e := by omega
      refine ⟨1, ?_⟩
      rw [wp_Ta_pastBlanks_b2, h1]
      unfold wp_Ta_pastBlanks_b24
      rw [ej]
      by_cases c : t ≤ e
      · rw [if_pos (nI_le c (by omega))]; exact h
      · rw [if_neg (nI_ge (by omega) (by omega))]
        refine C_isBlank hC rfl (by omega) (fun z => absurd z s3) (fun _ => ?_)
        rw [if_pos rfl]; exact h
    | succ d ih =>
      intro j hj hij
      obtain ⟨f, hf⟩ := ih (j + 1) (by omega) (by omega)
      refine ⟨f + 1, ?_⟩
      rw [wp_Ta_pastBlanks_b2, h1, if_neg (nI_ge (by omega) (by omega))]
      refine C_isBlank hC rfl (by omega) (fun _ => ?_) (fun z => absurd (s2 j hij (by omega)) z)
      rw [if_neg (by decide), nI_1]; exact hf
  exact go (e - i) i (by omega) (Nat.le_refl _)
/-- where a run ends -/
def tx_e (B : Nat → Int32) (t j : Nat) : Nat := if tx_l (tx_c B t j) then tx_r tx_l B t j else if tx_d (tx_c B t j) then tx_r tx_d B t j else j + 1
theorem tx_e_le {B : Nat → Int32} {t j : Nat} (ht : t ≤ 2000) (hj : j ≤ t) : j < tx_e B t j ∧ (j < t → tx_e B t j ≤ t) ∧ tx_e B t j ≤ t + 1 := by
  unfold tx_e
  by_cases c : tx_l (tx_c B t j)
  · rw [if_pos c]
    obtain ⟨s1, s2, s3, s4⟩ := tx_r_spec tx_l (by decide) B (t := t) (i := j) ht
    have : j ≠ tx_r tx_l B t j := fun z => s3 (by rw [← z]; exact c)
    have := s4 hj
    exact ⟨by omega, fun _ => s4 hj, by omega⟩
  · rw [if_neg c]
    by_cases c2 : tx_d (tx_c B t j)
    · rw [if_pos c2]
      obtain ⟨s1, s2, s3, s4⟩ := tx_r_spec tx_d (by decide) B (t := t) (i := j) ht
      have : j ≠ tx_r tx_d B t j := fun z => s3 (by rw [← z]; exact c2)
      have := s4 hj
      exact ⟨by omega, fun _ => s4 hj, by omega⟩
    · rw [if_neg c2]; exact ⟨by omega, fun h => by omega, by omega⟩
theorem C_runEnd (hC : tx_C t σ) {i : Nat} (hi : i ≤ t) {Q : Int32 → sx_M → Prop} (h : Q (nI (tx_e (σ 2 0 0) t i)) σ) : wp_Ta_runEnd (nI i) σ Q := by
  obtain ⟨ht, h1⟩ := id hC
  unfold tx_e at h
  unfold wp_Ta_runEnd wp_Ta_runEnd_b65
  refine C_isLetter hC rfl (by omega) (fun c => ?_) (fun c => ?_)
  · rw [if_neg (by decide)]
    rw [if_pos c] at h
    obtain ⟨-, s2, s3, s4⟩ := tx_r_spec tx_l (by decide) (σ 2 0 0) (t := t) (i := i) ht
    have hle := (tx_r_spec tx_l (by decide) (σ 2 0 0) (t := t) (i := i) ht).1
    generalize tx_r tx_l (σ 2 0 0) t i = e at *
    have et := s4 hi
    have go : ∀ (d j : Nat), j + d = e → i ≤ j → ∃ f, wp_Ta_runEnd_b10 Q f (nI j) σ := by
      intro d
      induction d with
      | zero =>
        intro j hj hij
        have ej : j = e := by omega
        refine ⟨1, ?_⟩
        rw [wp_Ta_runEnd_b10, h1]
        unfold wp_Ta_runEnd_b65
        rw [ej]
        by_cases c : t ≤ e
        · rw [if_pos (nI_le c (by omega))]; exact h
        · rw [if_neg (nI_ge (by omega) (by omega))]
          refine C_isLetter hC rfl (by omega) (fun z => absurd z s3) (fun _ => ?_)
          rw [if_pos rfl]; exact h
      | succ d ih =>
        intro j hj hij
        obtain ⟨f, hf⟩ := ih (j + 1) (by omega) (by omega)
        refine ⟨f + 1, ?_⟩
        rw [wp_Ta_runEnd_b10, h1, if_neg (nI_ge (by omega) (by omega))]
        refine C_isLetter hC rfl (by omega) (fun _ => ?_) (fun z => absurd (s2 j hij (by omega)) z)
        rw [if_neg (by decide), nI_1]; exact hf
    exact go (e - i) i (by omega) (Nat.le_refl _)
  · rw [if_pos rfl]
    rw [if_neg c] at h
    refine C_isDigit hC rfl (by omega) (fun c2 => ?_) (fun c2 => ?_)
    · rw [if_neg (by decide)]
      rw [if_pos c2] at h
      obtain ⟨-, s2, s3, s4⟩ := tx_r_spec tx_d (by decide) (σ 2 0 0) (t := t) (i := i) ht
      have hle := (tx_r_spec tx_d (by decide) (σ 2 0 0) (t := t) (i := i) ht).1
      generalize tx_r tx_d (σ 2 0 0) t i = e at *
      have et := s4 hi
      have go : ∀ (d j : Nat), j + d = e → i ≤ j → ∃ f, wp_Ta_runEnd_b40 Q f (nI j) σ := by
        intro d
        induction d with
        | zero =>
          intro j hj hij
          have ej : j = e := by omega
          refine ⟨1, ?_⟩
          rw [wp_Ta_runEnd_b40, h1]
          unfold wp_Ta_runEnd_b65
          rw [ej]
          by_cases c : t ≤ e
          · rw [if_pos (nI_le c (by omega))]; exact h
          · rw [if_neg (nI_ge (by omega) (by omega))]
            refine C_isDigit hC rfl (by omega) (fun z => absurd z s3) (fun _ => ?_)
            rw [if_pos rfl]; exact h
        | succ d ih =>
          intro j hj hij
          obtain ⟨f, hf⟩ := ih (j + 1) (by omega) (by omega)
          refine ⟨f + 1, ?_⟩
          rw [wp_Ta_runEnd_b40, h1, if_neg (nI_ge (by omega) (by omega))]
          refine C_isDigit hC rfl (by omega) (fun _ => ?_) (fun z => absurd (s2 j hij (by omega)) z)
          rw [if_neg (by decide), nI_1]; exact hf
      exact go (e - i) i (by omega) (Nat.le_refl _)
    · rw [if_pos rfl, nI_1]
      rw [if_neg c2] at h
      exact h
end BYTES
