theorem sx_u_at (σ : sx_M) (k n p f : Nat) (v : Int32) (k' n' p' j : Nat) : sx_u σ k n p f v k' n' p' j = if k' = k ∧ n' = n ∧ p' = p ∧ j = f then v else σ k' n' p' j := by
  unfold sx_u sx_r
  by_cases h : k' = k ∧ n' = n ∧ p' = p
  · obtain ⟨rfl, rfl, rfl⟩ := h
    by_cases hj : j = f <;> simp [upd, hj]
  · rw [if_neg h, if_neg]
    rintro ⟨a, b, c, -⟩
    exact h ⟨a, b, c⟩
theorem sx_r_at (σ : sx_M) (k n p : Nat) (g : Nat → Int32) (k' n' p' j : Nat) : sx_r σ k n p g k' n' p' j = if k' = k ∧ n' = n ∧ p' = p then g j else σ k' n' p' j := by
  unfold sx_r
  split <;> rfl
theorem sx_u_row (σ : sx_M) (k n p f : Nat) (v : Int32) {k' n' p' : Nat} (h : ¬ (k' = k ∧ n' = n ∧ p' = p)) : sx_u σ k n p f v k' n' p' = σ k' n' p' := sx_r_ne h
/-- the bits of n rows -/
def pn_b (f : Nat → Int32) : Nat → Nat
  | 0 => 0
  | n + 1 => pn_b f n + (if f n = 1 then 2 ^ n else 0)
theorem pn_b_lt (f : Nat → Int32) : ∀ n, pn_b f n < 2 ^ n
  | 0 => by simp [pn_b]
  | n + 1 => by
    have := pn_b_lt f n
    unfold pn_b
    have h2 : 2 ^ (n + 1) = 2 ^ n + 2 ^ n := by rw [Nat.pow_succ]; omega
    split <;> omega
theorem pn_b_congr {f g : Nat → Int32} : ∀ {n : Nat}, (∀ i, i < n → f i = g i) → pn_b f n = pn_b g n
  | 0, _ => rfl
  | n + 1, h => by
    unfold pn_b
    rw [pn_b_congr (fun i hi => h i (Nat.lt_succ_of_lt hi)), h n (Nat.lt_succ_self n)]
theorem pn_b_bit (f : Nat → Int32) : ∀ (n i : Nat), i < n → (pn_b f n / 2 ^ i % 2 = if f i = 1 then 1 else 0)
  | 0, i, h => absurd h (Nat.not_lt_zero i)
  | n + 1, i, h => by
    unfold pn_b
    by_cases hi : i = n
    · subst hi
      have hl := pn_b_lt f i
      by_cases hf : f i = 1
      · rw [if_pos hf, if_pos hf, Nat.add_comm, Nat.add_div_left _ (Nat.two_pow_pos i), Nat.div_eq_of_lt hl]
      · rw [if_neg hf, if_neg hf, Nat.add_zero, Nat.div_eq_of_lt hl]
    · have hi2 : i < n := by omega
      have ih := pn_b_bit f n i hi2
      by_cases hf : f n = 1
      · rw [if_pos hf]
        have hd : 2 ^ n = 2 ^ i * (2 * 2 ^ (n - i - 1)) := by
          have e : n = i + (1 + (n - i - 1)) := by omega
          calc 2 ^ n = 2 ^ (i + (1 + (n - i - 1))) := by rw [← e]
            _ = 2 ^ i * (2 * 2 ^ (n - i - 1)) := by rw [Nat.pow_add, Nat.pow_add]
        rw [hd, Nat.add_mul_div_left _ _ (Nat.two_pow_pos i), Nat.add_mul_mod_self_left]
        exact ih
      · rw [if_neg hf, Nat.add_zero]
        exact ih
def pn_z (x : Int32) : Prop := x = 0 ∨ x = 1
/-- nobody, or one of P -/
def pn_o (P : Nat) (x : Int32) : Prop := x = -2 ∨ ∃ q, q < P ∧ x = nI q
/-- a number up to M -/
def pn_r (M : Nat) (x : Int32) : Prop := ∃ q, q ≤ M ∧ x = nI q
/-- what the texts tell, on both sides: P posts, L links; v: the side that lives -/
def pn_P (P L v : Nat) (σ ρ : sx_M) : Prop :=
  (P ≤ 7 ∧ L ≤ 16 ∧ v < 2) ∧
  (σ 8 0 0 0 = nI P ∧ σ 8 0 0 1 = nI L ∧ ρ 50 0 0 17 = nI v ∧ ρ 58 0 0 v = nI P ∧ ρ 59 0 0 v = nI L) ∧
  (pn_z (σ 8 0 0 7) ∧ ρ 65 0 0 v = σ 8 0 0 7) ∧
  (∀ i, i < 9 → ρ 66 0 0 (9 * v + i) = σ 14 0 0 i ∧ pn_r 9999 (σ 14 0 0 i)) ∧
  ((∃ h, 1 ≤ h ∧ h ≤ 4 ∧ σ 14 0 0 0 = nI (2 * h)) ∧ pn_r 4 (σ 14 0 0 1) ∧ (∃ h, 2 ≤ h ∧ h ≤ 60 ∧ σ 14 0 0 6 = nI h) ∧ ∃ h, 1 ≤ h ∧ h ≤ 20 ∧ σ 14 0 0 5 = nI h) ∧
  (∀ a b, a < P → b < P → ρ 64 0 0 (49 * v + 7 * a + b) = σ 13 0 a b ∧ (σ 13 0 a b = -1 ∨ ∃ l, l < L ∧ σ 13 0 a b = nI l ∧ ((σ 9 0 0 l = nI a ∧ σ 10 0 0 l = nI b) ∨ (σ 9 0 0 l = nI b ∧ σ 10 0 0 l = nI a)))) ∧
  (∀ a, a < P → σ 13 0 a a = -1) ∧
  (∀ l, l < L → ρ 61 0 0 (16 * v + l) = σ 9 0 0 l ∧ ρ 62 0 0 (16 * v + l) = σ 10 0 0 l ∧ ρ 63 0 0 (16 * v + l) = σ 11 0 0 l ∧ (∃ c, 1 ≤ c ∧ c ≤ 9 ∧ σ 11 0 0 l = nI c) ∧ ∃ a b, a < P ∧ b < P ∧ a ≠ b ∧ σ 9 0 0 l = nI a ∧ σ 10 0 0 l = nI b ∧ σ 13 0 a b = nI l ∧ σ 13 0 b a = nI l)
/-- a message, on both sides -/
def pn_m (P : Nat) (so fr to ab va li w w2 : Int32) : Prop :=
  w2 = va ∧ ∃ f, f < P ∧ fr = nI f ∧
  ((so = 0 ∧ ∃ u, u ≤ 99 ∧ ab = nI u ∧ w = nI (4 * f + 65536 * u) ∧ pn_r 20000 va) ∨
   ∃ s t d j, 1 ≤ s ∧ s ≤ 2 ∧ t < P ∧ d < P ∧ j ≤ 11 ∧ so = nI s ∧ to = nI t ∧ ab = nI d ∧ li = nI j ∧ w = nI (s + 4 * f + 32 * t + 256 * d + 2048 * (j + 1)))
/-- a net and a row: m messages wait -/
def pn_N (P L m : Nat) (σ : sx_M) (n : Nat) (ρ : sx_M) (k b : Nat) : Prop :=
  (P ≤ 7 ∧ L ≤ 16) ∧ (∀ f, f < 7 → ρ k 0 0 (b + f) = σ 16 n 0 (f + 1)) ∧
  (m ≤ 200 ∧ ρ k 0 0 (b + 7) = nI m ∧ σ 20 n 0 0 = nI m) ∧
  ((∀ l, l < L → pn_z (σ 18 n 0 l)) ∧ ρ k 0 0 (b + 8) = nI (pn_b (σ 18 n 0) L)) ∧
  ((∀ p, p < P → pn_z (σ 27 n p 0)) ∧ ρ k 0 0 (b + 9) = nI (pn_b (fun p => σ 27 n p 0) P)) ∧
  (∀ l, l < L → ρ k 0 0 (b + 10 + l) = σ 19 n 0 l ∧ ∃ c, 1 ≤ c ∧ c ≤ 9 ∧ σ 19 n 0 l = nI c) ∧
  (∀ p, p < P → ∀ w, w < 10 → ρ k 0 0 (b + 26 + 10 * p + w) = σ 27 n p (w + 1)) ∧
  (∀ p j, p < P → j < P → ρ k 0 0 (b + 96 + 7 * p + j) = σ 28 n p j ∧ ρ k 0 0 (b + 145 + 7 * p + j) = σ 29 n p j ∧ (¬ σ 29 n p j = -2 → ρ k 0 0 (b + 194 + 7 * p + j) = σ 30 n p j)) ∧
  (∀ p j, p < 7 → j < 7 → P ≤ p ∨ P ≤ j → ρ k 0 0 (b + 145 + 7 * p + j) = -2) ∧
  (∀ i, i < m → pn_m P (σ 21 n 0 i) (σ 22 n 0 i) (σ 23 n 0 i) (σ 24 n 0 i) (σ 25 n 0 i) (σ 26 n 0 i) (ρ k 0 0 (b + 243 + 2 * i)) (ρ k 0 0 (b + 243 + 2 * i + 1))) ∧
  (∀ p, p < P → pn_r 99 (σ 27 n p 1) ∧ pn_r 20000 (σ 27 n p 2) ∧ pn_o P (σ 27 n p 3) ∧ pn_r 9999 (σ 27 n p 4) ∧ ∃ q, 2 ≤ q ∧ q ≤ 300 ∧ σ 27 n p 7 = nI q) ∧
  (∀ p j, p < P → j < P → pn_r 20000 (σ 28 n p j) ∧ pn_o P (σ 29 n p j)) ∧
  (0 < P → σ 27 n 0 3 = -2)
/-- a tick's state: engine e with net e, the row -/
def pn_T (P L v m e : Nat) (σ ρ : sx_M) : Prop := e < 2 ∧ pn_P P L v σ ρ ∧ pn_N P L m σ e ρ 68 0 ∧ σ 31 e 0 3 = ρ 50 0 0 31
/-- what a tick's methods leave alone -/
def pn_y (e : Nat) (σ σ2 : sx_M) : Prop := (∀ q p, (q = 18 ∨ q = 19) → σ2 q e p = σ q e p) ∧ ∀ p, σ2 27 e p 0 = σ 27 e p 0
def pn_f (e : Nat) (σ σ2 : sx_M) : Prop := (∀ k n p, ¬ ((16 ≤ k ∧ k ≤ 30) ∧ n = e) → σ2 k n p = σ k n p) ∧ pn_y e σ σ2
theorem pn_y.rf {e : Nat} {σ : sx_M} : pn_y e σ σ := ⟨fun _ _ _ => rfl, fun _ => rfl⟩
theorem pn_y.tr {e : Nat} {a b c : sx_M} (h : pn_y e a b) (h2 : pn_y e b c) : pn_y e a c := ⟨fun q p z => (h2.1 q p z).trans (h.1 q p z), fun p => (h2.2 p).trans (h.2 p)⟩
def pn_g (ρ ρ2 : sx_M) : Prop := ∀ k n p, ¬ k = 68 → ρ2 k n p = ρ k n p
theorem pn_f.rf {e : Nat} {σ : sx_M} : pn_f e σ σ := ⟨fun _ _ _ _ => rfl, pn_y.rf⟩
theorem pn_g.rf {ρ : sx_M} : pn_g ρ ρ := fun _ _ _ _ => rfl
theorem pn_f.tr {e : Nat} {a b c : sx_M} (h : pn_f e a b) (h2 : pn_f e b c) : pn_f e a c := ⟨fun k n p q => (h2.1 k n p q).trans (h.1 k n p q), h.2.tr h2.2⟩
theorem pn_g.tr {a b c : sx_M} (h : pn_g a b) (h2 : pn_g b c) : pn_g a c := fun k n p q => (h2 k n p q).trans (h k n p q)
theorem pn_f.u {e : Nat} {a b : sx_M} (h : pn_f e a b) {k n p f : Nat} {x : Int32} (hk : ((16 ≤ k ∧ k ≤ 30) ∧ ¬ k = 18 ∧ ¬ k = 19 ∧ ¬ (k = 27 ∧ f = 0)) ∧ n = e) : pn_f e a (sx_u b k n p f x) := by
  refine ⟨fun k2 n2 p2 q => ?_, fun q p2 z => ?_, fun p2 => ?_⟩
  · rw [sx_u_row _ _ _ _ _ _ (by omega)]; exact h.1 k2 n2 p2 q
  · rw [sx_u_row _ _ _ _ _ _ (by omega)]; exact h.2.1 q p2 z
  · rw [sx_u_at, if_neg (by omega)]; exact h.2.2 p2
theorem pn_g.u {a b : sx_M} (h : pn_g a b) {k n p f : Nat} {x : Int32} (hk : k = 68) : pn_g a (sx_u b k n p f x) := fun k2 n2 p2 q => by
  rw [sx_u_row]
  · exact h k2 n2 p2 q
  · rintro ⟨rfl, rfl, rfl⟩
    exact q hk
theorem pn_P.mv {P L v e : Nat} {σ σ2 ρ ρ2 : sx_M} (h : pn_P P L v σ ρ) (hf : pn_f e σ σ2) (hg : pn_g ρ ρ2) : pn_P P L v σ2 ρ2 := by
  have c : ∀ k n p, k < 16 → σ2 k n p = σ k n p := fun k n p hk => hf.1 k n p (by omega)
  have d : ∀ k n p, k < 68 → ρ2 k n p = ρ k n p := fun k n p hk => hg k n p (by omega)
  unfold pn_P
  simp only [c 8 _ _ (by decide), c 9 _ _ (by decide), c 10 _ _ (by decide), c 11 _ _ (by decide), c 13 _ _ (by decide), c 14 _ _ (by decide), d 50 _ _ (by decide), d 58 _ _ (by decide), d 59 _ _ (by decide), d 61 _ _ (by decide), d 62 _ _ (by decide), d 63 _ _ (by decide), d 64 _ _ (by decide), d 65 _ _ (by decide), d 66 _ _ (by decide)]
  exact h
section PNU
variable {P L m : Nat} {σ σ2 ρ ρ2 : sx_M} {n k b : Nat}
/-- nothing of it has changed but counters and messages -/
theorem pn_N.put {m2 : Nat} (h : pn_N P L m σ n ρ k b) (hC : ∀ q p, (q = 18 ∨ q = 19 ∨ q = 27 ∨ q = 28 ∨ q = 29 ∨ q = 30) → σ2 q n p = σ q n p) (hR : ∀ j, b + 8 ≤ j → j < b + 243 → ρ2 k 0 0 j = ρ k 0 0 j)
    (h1 : ∀ f, f < 7 → ρ2 k 0 0 (b + f) = σ2 16 n 0 (f + 1)) (h2 : m2 ≤ 200 ∧ ρ2 k 0 0 (b + 7) = nI m2 ∧ σ2 20 n 0 0 = nI m2)
    (h9 : ∀ i, i < m2 → pn_m P (σ2 21 n 0 i) (σ2 22 n 0 i) (σ2 23 n 0 i) (σ2 24 n 0 i) (σ2 25 n 0 i) (σ2 26 n 0 i) (ρ2 k 0 0 (b + 243 + 2 * i)) (ρ2 k 0 0 (b + 243 + 2 * i + 1))) : pn_N P L m2 σ2 n ρ2 k b := by
  obtain ⟨a0, -, -, a3, a4, a5, a6, a7, a8, -, a10, a11, a12⟩ := h
  obtain ⟨hP, hL⟩ := a0
  have e27 : ∀ p, σ2 27 n p = σ 27 n p := fun p => hC 27 p (by simp)
  refine ⟨⟨hP, hL⟩, h1, h2, ⟨fun l hl => ?_, ?_⟩, ⟨fun p hp => ?_, ?_⟩, fun l hl => ?_, fun p hp w hw => ?_, fun p j hp hj => ?_, fun p j hp hj q => ?_, h9, fun p hp => ?_, fun p j hp hj => ?_, fun q => ?_⟩
  · rw [hC 18 0 (by simp)]; exact a3.1 l hl
  · rw [hC 18 0 (by simp), hR _ (by omega) (by omega)]; exact a3.2
  · rw [e27]; exact a4.1 p hp
  · rw [hR _ (by omega) (by omega), show (fun p => σ2 27 n p 0) = fun p => σ 27 n p 0 from funext fun p => by rw [e27]]; exact a4.2
  · rw [hC 19 0 (by simp), hR _ (by omega) (by omega)]; exact a5 l hl
  · rw [e27, hR _ (by omega) (by omega)]; exact a6 p hp w hw
  · rw [hC 28 p (by simp), hC 29 p (by simp), hC 30 p (by simp), hR _ (by omega) (by omega), hR _ (by omega) (by omega), hR _ (by omega) (by omega)]; exact a7 p j hp hj
  · rw [hR _ (by omega) (by omega)]; exact a8 p j hp hj q
  · rw [e27]; exact a10 p hp
  · rw [hC 28 p (by simp), hC 29 p (by simp)]; exact a11 p j hp hj
  · rw [e27]; exact a12 q
/-- a field of a post that is no 'on' -/
theorem pn_N.setP (h : pn_N P L m σ n ρ k b) {p0 w0 : Nat} (hp0 : p0 < P) (hw0 : w0 < 10) {x : Int32} (hx0 : w0 = 0 → pn_r 99 x) (hx1 : w0 = 1 → pn_r 20000 x) (hx2 : w0 = 2 → pn_o P x ∧ 0 < p0) (hx3 : w0 = 3 → pn_r 9999 x) (hx6 : w0 = 6 → ∃ q, 2 ≤ q ∧ q ≤ 300 ∧ x = nI q) : pn_N P L m (sx_u σ 27 n p0 (w0 + 1) x) n (sx_u ρ k 0 0 (b + 26 + 10 * p0 + w0) x) k b := by
  obtain ⟨a0, a1, a2, a3, a4, a5, a6, a7, a8, a9, a10, a11, a12⟩ := h
  obtain ⟨hP, hL⟩ := a0
  have hC : ∀ q p, q ≠ 27 → sx_u σ 27 n p0 (w0 + 1) x q n p = σ q n p := fun q p hq => sx_u_row _ _ _ _ _ _ (fun z => hq z.1)
  have hR : ∀ j, j ≠ b + 26 + 10 * p0 + w0 → sx_u ρ k 0 0 (b + 26 + 10 * p0 + w0) x k 0 0 j = ρ k 0 0 j := fun j hj => by rw [sx_u_at, if_neg (fun z => hj z.2.2.2)]
  have h27 : ∀ p j, ¬ (p = p0 ∧ j = w0 + 1) → sx_u σ 27 n p0 (w0 + 1) x 27 n p j = σ 27 n p j := fun p j hj => by rw [sx_u_at, if_neg (fun z => hj ⟨z.2.2.1, z.2.2.2⟩)]
  have h27e : sx_u σ 27 n p0 (w0 + 1) x 27 n p0 (w0 + 1) = x := by rw [sx_u_at, if_pos ⟨rfl, rfl, rfl, rfl⟩]
  refine ⟨⟨hP, hL⟩, fun f hf => ?_, ⟨a2.1, ?_, ?_⟩, ⟨fun l hl => ?_, ?_⟩, ⟨fun p hp => ?_, ?_⟩, fun l hl => ?_, fun p hp w hw => ?_, fun p j hp hj => ?_, fun p j hp hj q => ?_, fun i hi => ?_, fun p hp => ?_, fun p j hp hj => ?_, fun q => ?_⟩
  · rw [hR _ (by omega), hC 16 0 (by decide)]; exact a1 f hf
  · rw [hR _ (by omega)]; exact a2.2.1
  · rw [hC 20 0 (by decide)]; exact a2.2.2
  · rw [hC 18 0 (by decide)]; exact a3.1 l hl
  · rw [hC 18 0 (by decide), hR _ (by omega)]; exact a3.2
  · rw [h27 p 0 (by omega)]; exact a4.1 p hp
  · rw [hR _ (by omega), show (fun p => sx_u σ 27 n p0 (w0 + 1) x 27 n p 0) = fun p => σ 27 n p 0 from funext fun p => h27 p 0 (by omega)]; exact a4.2
  · rw [hC 19 0 (by decide), hR _ (by omega)]; exact a5 l hl
  · by_cases e : p = p0 ∧ w = w0
    · obtain ⟨rfl, rfl⟩ := e
      rw [h27e, sx_u_at, if_pos ⟨rfl, rfl, rfl, rfl⟩]
    · rw [h27 p (w + 1) (by omega), hR _ (by omega)]; exact a6 p hp w hw
  · rw [hC 28 p (by decide), hC 29 p (by decide), hC 30 p (by decide), hR _ (by omega), hR _ (by omega), hR _ (by omega)]; exact a7 p j hp hj
  · rw [hR _ (by omega)]; exact a8 p j hp hj q
  · rw [hC 21 0 (by decide), hC 22 0 (by decide), hC 23 0 (by decide), hC 24 0 (by decide), hC 25 0 (by decide), hC 26 0 (by decide), hR _ (by omega), hR _ (by omega)]; exact a9 i hi
  · by_cases e : p = p0
    · subst e
      obtain ⟨b0, b1, b2, b3, b6⟩ := a10 p hp
      refine ⟨?_, ?_, ?_, ?_, ?_⟩
      · by_cases z : w0 = 0
        · subst z; rw [h27e]; exact hx0 rfl
        · rw [h27 p 1 (by omega)]; exact b0
      · by_cases z : w0 = 1
        · subst z; rw [h27e]; exact hx1 rfl
        · rw [h27 p 2 (by omega)]; exact b1
      · by_cases z : w0 = 2
        · subst z; rw [h27e]; exact (hx2 rfl).1
        · rw [h27 p 3 (by omega)]; exact b2
      · by_cases z : w0 = 3
        · subst z; rw [h27e]; exact hx3 rfl
        · rw [h27 p 4 (by omega)]; exact b3
      · by_cases z : w0 = 6
        · subst z; rw [h27e]; exact hx6 rfl
        · rw [h27 p 7 (by omega)]; exact b6
    · rw [h27 p 1 (by omega), h27 p 2 (by omega), h27 p 3 (by omega), h27 p 4 (by omega), h27 p 7 (by omega)]; exact a10 p hp
  · rw [hC 28 p (by decide), hC 29 p (by decide)]; exact a11 p j hp hj
  · rw [h27 0 3 (fun z => by have := (hx2 (by omega)).2; omega)]; exact a12 q
/-- a rank that was heard -/
theorem pn_N.setH (h : pn_N P L m σ n ρ k b) {p0 j0 : Nat} (hp0 : p0 < P) (hj0 : j0 < 7) {x : Int32} (hx : pn_r 20000 x) : pn_N P L m (sx_u σ 28 n p0 j0 x) n (sx_u ρ k 0 0 (b + 96 + 7 * p0 + j0) x) k b := by
  obtain ⟨a0, a1, a2, a3, a4, a5, a6, a7, a8, a9, a10, a11, a12⟩ := h
  obtain ⟨hP, hL⟩ := a0
  have hC : ∀ q p, q ≠ 28 → sx_u σ 28 n p0 j0 x q n p = σ q n p := fun q p hq => sx_u_row _ _ _ _ _ _ (fun z => hq z.1)
  have hR : ∀ j, j ≠ b + 96 + 7 * p0 + j0 → sx_u ρ k 0 0 (b + 96 + 7 * p0 + j0) x k 0 0 j = ρ k 0 0 j := fun j hj => by rw [sx_u_at, if_neg (fun z => hj z.2.2.2)]
  have h28 : ∀ p j, ¬ (p = p0 ∧ j = j0) → sx_u σ 28 n p0 j0 x 28 n p j = σ 28 n p j := fun p j hj => by rw [sx_u_at, if_neg (fun z => hj ⟨z.2.2.1, z.2.2.2⟩)]
  have h28e : sx_u σ 28 n p0 j0 x 28 n p0 j0 = x := by rw [sx_u_at, if_pos ⟨rfl, rfl, rfl, rfl⟩]
  have e27 : ∀ p, sx_u σ 28 n p0 j0 x 27 n p = σ 27 n p := fun p => hC 27 p (by decide)
  refine ⟨⟨hP, hL⟩, fun f hf => ?_, ⟨a2.1, ?_, ?_⟩, ⟨fun l hl => ?_, ?_⟩, ⟨fun p hp => ?_, ?_⟩, fun l hl => ?_, fun p hp w hw => ?_, fun p j hp hj => ?_, fun p j hp hj q => ?_, fun i hi => ?_, fun p hp => ?_, fun p j hp hj => ?_, fun q => ?_⟩
  · rw [hR _ (by omega), hC 16 0 (by decide)]; exact a1 f hf
  · rw [hR _ (by omega)]; exact a2.2.1
  · rw [hC 20 0 (by decide)]; exact a2.2.2
  · rw [hC 18 0 (by decide)]; exact a3.1 l hl
  · rw [hC 18 0 (by decide), hR _ (by omega)]; exact a3.2
  · rw [e27]; exact a4.1 p hp
  · rw [hR _ (by omega), show (fun p => sx_u σ 28 n p0 j0 x 27 n p 0) = fun p => σ 27 n p 0 from funext fun p => by rw [e27]]; exact a4.2
  · rw [hC 19 0 (by decide), hR _ (by omega)]; exact a5 l hl
  · rw [e27, hR _ (by omega)]; exact a6 p hp w hw
  · rw [hC 29 p (by decide), hC 30 p (by decide), hR (b + 145 + 7 * p + j) (by omega), hR (b + 194 + 7 * p + j) (by omega)]
    refine ⟨?_, (a7 p j hp hj).2⟩
    by_cases e : p = p0 ∧ j = j0
    · obtain ⟨rfl, rfl⟩ := e
      rw [h28e, sx_u_at, if_pos ⟨rfl, rfl, rfl, rfl⟩]
    · rw [h28 p j e, hR _ (by omega)]; exact (a7 p j hp hj).1
  · rw [hR _ (by omega)]; exact a8 p j hp hj q
  · rw [hC 21 0 (by decide), hC 22 0 (by decide), hC 23 0 (by decide), hC 24 0 (by decide), hC 25 0 (by decide), hC 26 0 (by decide), hR _ (by omega), hR _ (by omega)]; exact a9 i hi
  · rw [e27]; exact a10 p hp
  · rw [hC 29 p (by decide)]
    refine ⟨?_, (a11 p j hp hj).2⟩
    by_cases e : p = p0 ∧ j = j0
    · obtain ⟨rfl, rfl⟩ := e
      rw [h28e]; exact hx
    · rw [h28 p j e]; exact (a11 p j hp hj).1
  · rw [e27]; exact a12 q
end PNU
