/-- does it come there by parents? -/
def pn_ct (σ : sx_M) (e b : Nat) : Nat → Int32 → Int32
  | 0, _ => 0
  | k + 1, x => if x = -2 then 0 else if x = nI b then 1 else pn_ct σ e b k (σ 27 e x.toNatClampNeg 3)
/-- how deep it is; -1: it doesn't come there -/
def pn_dp (σ : sx_M) (e : Nat) : Nat → Nat → Int32 → Int32
  | 0, _, _ => -1
  | k + 1, d, x => if x = -2 then -1 else if x = 0 then nI d else pn_dp σ e k (d + 1) (σ 27 e x.toNatClampNeg 3)
section WAYS
variable {P L v m n e : Nat} {σ σ2 ρ ρ2 : sx_M} {θ : sx_L}
/-- is it a post? by the plan alone -/
theorem C_isP1 (h7 : P ≤ 7) (hS : σ 8 0 0 0 = nI P) {x : Int32} {j : Nat} (hx : x = nI j) (hj : j < P) {Q : Int32 → sx_M → Prop} (h : Q 1 σ) : wp_Pl_isPost 0 x σ Q := by
  unfold wp_Pl_isPost wp_Pl_isPost_b17
  rw [hx, if_neg (nI_pos (by omega)), hS, if_neg (nI_ge hj (by omega))]
  exact ⟨Or.inr rfl, h⟩
theorem C_isP0 {x : Int32} (hx : x = -2) {Q : Int32 → sx_M → Prop} (h : Q 0 σ) : wp_Pl_isPost 0 x σ Q := by
  unfold wp_Pl_isPost wp_Pl_isPost_b16 wp_Pl_isPost_b17
  rw [hx, if_pos (by decide)]
  exact ⟨Or.inl rfl, h⟩
theorem C_ctLoop (h7 : P ≤ 7) (hS : σ 8 0 0 0 = nI P) (hO : ∀ p, p < P → pn_o P (σ 27 e p 3)) {b : Nat} {Q : Int32 → sx_M → Prop} : ∀ (k d : Nat) (x : Int32), d + k = 7 → pn_o P x → Q (pn_ct σ e b k x) σ → ∃ f, wp_Ne_comesTo_b13 e Q f (nI b) x (nI d) σ
  | 0, d, x, hd, hx, h => by
    have : d = 7 := by omega
    subst this
    exact ⟨1, by rw [wp_Ne_comesTo_b13, if_pos (by decide)]; exact h⟩
  | k + 1, d, x, hd, hx, h => by
    have nd : ¬ 7 ≤ nI d := nI_ge (b := 7) (by omega) (by decide)
    unfold pn_ct at h
    by_cases c1 : x = -2
    · rw [if_pos c1] at h
      refine ⟨1, ?_⟩
      rw [wp_Ne_comesTo_b13, if_neg nd]
      refine C_isP0 c1 ?_
      rw [if_pos (rfl : (0 : Int32) = 0)]; exact h
    · rw [if_neg c1] at h
      obtain ⟨q, hq, eq⟩ := hx.resolve_left c1
      by_cases c2 : x = nI b
      · rw [if_pos c2] at h
        refine ⟨1, ?_⟩
        rw [wp_Ne_comesTo_b13, if_neg nd]
        refine C_isP1 h7 hS eq hq ?_
        rw [if_neg (show ¬ (1 : Int32) = 0 by decide), if_pos c2]; exact h
      · rw [if_neg c2] at h
        have cq : x.toNatClampNeg = q := cl_I eq (by omega)
        rw [cq] at h
        obtain ⟨f, hf⟩ := C_ctLoop h7 hS hO k (d + 1) _ (by omega) (hO q hq) h
        refine ⟨f + 1, ?_⟩
        rw [wp_Ne_comesTo_b13, if_neg nd]
        refine C_isP1 h7 hS eq hq ?_
        rw [if_neg (show ¬ (1 : Int32) = 0 by decide), if_neg c2, cq, nI_1]
        exact ⟨in_I eq (by omega) (by decide), hf⟩
theorem C_comes (h7 : P ≤ 7) (hS : σ 8 0 0 0 = nI P) (hO : ∀ p, p < P → pn_o P (σ 27 e p 3)) {a b : Nat} (ha : a < P) {Q : Int32 → sx_M → Prop} (h : Q (pn_ct σ e b 7 (σ 27 e a 3)) σ) : wp_Ne_comesTo e (nI a) (nI b) σ Q := by
  unfold wp_Ne_comesTo
  rw [nI_clamp (n := a) (by omega)]
  exact ⟨vp_in_nI (by omega) (by decide), C_ctLoop h7 hS hO 7 0 _ rfl (hO a ha) h⟩
theorem R_ctLoop (h7 : P ≤ 7) (hO : ∀ p, p < P → pn_o P (σ 27 0 p 3)) (hr : ∀ p, p < P → ρ 67 0 0 (26 + 10 * p + 2) = σ 27 0 p 3) {b : Nat} {Q : Int32 → sx_M → sx_L → Prop} : ∀ (k d : Nat) (x : Int32), d + k = 7 → pn_o P x → Q (pn_ct σ 0 b k x) ρ θ → ∃ f, wp_Mo_doesCome_b10 Q f (nI b) x (nI d) ρ θ
  | 0, d, x, hd, hx, h => by
    have : d = 7 := by omega
    subst this
    exact ⟨1, by rw [wp_Mo_doesCome_b10, if_pos (by decide)]; exact h⟩
  | k + 1, d, x, hd, hx, h => by
    have nd : ¬ 7 ≤ nI d := nI_ge (b := 7) (by omega) (by decide)
    unfold pn_ct at h
    by_cases c1 : x = -2
    · rw [if_pos c1] at h
      exact ⟨1, by rw [wp_Mo_doesCome_b10, if_neg nd, if_pos ((hx.neg h7).mpr c1)]; exact h⟩
    · rw [if_neg c1] at h
      by_cases c2 : x = nI b
      · rw [if_pos c2] at h
        exact ⟨1, by rw [wp_Mo_doesCome_b10, if_neg nd, if_neg (fun z => c1 ((hx.neg h7).mp z)), if_pos c2]; exact h⟩
      · rw [if_neg c2] at h
        obtain ⟨q, hq, eq⟩ := hx.resolve_left c1
        have cq : x.toNatClampNeg = q := cl_I eq (by omega)
        rw [cq] at h
        obtain ⟨f, hf⟩ := R_ctLoop h7 hO hr k (d + 1) _ (by omega) (hO q hq) h
        refine ⟨f + 1, ?_⟩
        rw [wp_Mo_doesCome_b10, if_neg nd, if_neg (fun z => c1 ((hx.neg h7).mp z)), if_neg c2, nI_1]
        refine R_nowOf (i := 2) eq rfl (by omega) (by decide) ?_
        rw [hr q hq]; exact hf
theorem R_does (h7 : P ≤ 7) (hO : ∀ p, p < P → pn_o P (σ 27 0 p 3)) (hr : ∀ p, p < P → ρ 67 0 0 (26 + 10 * p + 2) = σ 27 0 p 3) {a b : Nat} (ha : a < P) {Q : Int32 → sx_M → sx_L → Prop} (h : Q (pn_ct σ 0 b 7 (σ 27 0 a 3)) ρ θ) : wp_Mo_doesCome (nI a) (nI b) ρ θ Q := by
  unfold wp_Mo_doesCome
  refine R_nowOf (i := 2) rfl rfl (by omega) (by decide) ?_
  rw [hr a ha]
  exact R_ctLoop h7 hO hr 7 0 _ rfl (hO a ha) h
theorem C_dpLoop (h7 : P ≤ 7) (hS : σ 8 0 0 0 = nI P) (hO : ∀ p, p < P → pn_o P (σ 27 e p 3)) {Q : Int32 → sx_M → Prop} : ∀ (k d : Nat) (x : Int32), d + k = 7 → pn_o P x → Q (if pn_dp σ e k d x = -1 then 0 else pn_dp σ e k d x) σ → ∃ f, wp_Ne_depth_b4 e Q f x (nI d) σ
  | 0, d, x, hd, hx, h => by
    have : d = 7 := by omega
    subst this
    exact ⟨1, by rw [wp_Ne_depth_b4, if_pos (by decide)]; exact h⟩
  | k + 1, d, x, hd, hx, h => by
    have nd : ¬ 7 ≤ nI d := nI_ge (b := 7) (by omega) (by decide)
    unfold pn_dp at h
    by_cases c1 : x = -2
    · simp only [if_pos c1] at h
      refine ⟨1, ?_⟩
      rw [wp_Ne_depth_b4, if_neg nd]
      refine C_isP0 c1 ?_
      rw [if_pos (rfl : (0 : Int32) = 0)]; exact h
    · simp only [if_neg c1] at h
      obtain ⟨q, hq, eq⟩ := hx.resolve_left c1
      by_cases c2 : x = 0
      · simp only [if_pos c2] at h
        rw [if_neg (pn_m1 (by omega))] at h
        refine ⟨1, ?_⟩
        rw [wp_Ne_depth_b4, if_neg nd]
        refine C_isP1 h7 hS eq hq ?_
        rw [if_neg (show ¬ (1 : Int32) = 0 by decide), if_pos c2]; exact h
      · simp only [if_neg c2] at h
        have cq : x.toNatClampNeg = q := cl_I eq (by omega)
        rw [cq] at h
        obtain ⟨f, hf⟩ := C_dpLoop h7 hS hO k (d + 1) _ (by omega) (hO q hq) h
        refine ⟨f + 1, ?_⟩
        rw [wp_Ne_depth_b4, if_neg nd]
        refine C_isP1 h7 hS eq hq ?_
        rw [if_neg (show ¬ (1 : Int32) = 0 by decide), if_neg c2, cq, nI_1]
        exact ⟨in_I eq (by omega) (by decide), hf⟩
theorem R_dpLoop (hT : pn_T P L v m e σ ρ) {Q : Int32 → sx_M → sx_L → Prop} : ∀ (k d q : Nat), d + k = 7 → q < P → Q (pn_dp σ e k d (nI q)) ρ θ → ∃ f, wp_Mo_above_b4 Q f (nI q) (nI d) ρ θ
  | 0, d, q, hd, hx, h => by
    have : d = 7 := by omega
    subst this
    exact ⟨1, by rw [wp_Mo_above_b4, if_pos (by decide)]; exact h⟩
  | k + 1, d, q, hd, hx, h => by
    have h7 := hT.p7
    have nd : ¬ 7 ≤ nI d := nI_ge (b := 7) (by omega) (by decide)
    have po := (hT.2.2.1.2.2.2.2.2.2.2.2.2.2.1 q hx).2.2.1
    unfold pn_dp at h
    rw [if_neg (pn_m2 (by omega)), nI_clamp (n := q) (by omega)] at h
    by_cases c2 : nI q = 0
    · rw [if_pos c2] at h
      exact ⟨1, by rw [wp_Mo_above_b4, if_neg nd, if_pos c2]; exact h⟩
    · rw [if_neg c2] at h
      by_cases c3 : σ 27 e q 3 = -2
      · have hm : pn_dp σ e k (d + 1) (σ 27 e q 3) = -1 := by
          rw [c3]; cases k with
          | zero => rfl
          | succ k => unfold pn_dp; rw [if_pos rfl]
        rw [hm] at h
        refine ⟨1, ?_⟩
        rw [wp_Mo_above_b4, if_neg nd, if_neg c2]
        refine R_of (i := 2) rfl rfl (by omega) (by decide) ?_
        rw [hT.fld hx (w := 2) (by decide), if_neg (fun z => absurd ((po.neg h7).mpr c3) (Int32.not_lt.mpr z))]
        exact h
      · obtain ⟨r, hr, er⟩ := po.resolve_left c3
        rw [er] at h
        obtain ⟨f, hf⟩ := R_dpLoop hT k (d + 1) r (by omega) hr h
        refine ⟨f + 1, ?_⟩
        rw [wp_Mo_above_b4, if_neg nd, if_neg c2, nI_1]
        refine R_of (i := 2) rfl rfl (by omega) (by decide) ?_
        rw [hT.fld hx (w := 2) (by decide), if_pos (Int32.not_lt.mp (fun z => c3 ((po.neg h7).mp z))), er]
        exact hf
theorem pn_dp_v (σ : sx_M) (e : Nat) : ∀ (k d : Nat) (x : Int32), pn_dp σ e k d x = -1 ∨ ∃ i, i < d + k ∧ pn_dp σ e k d x = nI i
  | 0, _, _ => Or.inl rfl
  | k + 1, d, x => by
    unfold pn_dp
    by_cases c1 : x = -2
    · rw [if_pos c1]; exact Or.inl rfl
    · rw [if_neg c1]
      by_cases c2 : x = 0
      · rw [if_pos c2]; exact Or.inr ⟨d, by omega, rfl⟩
      · rw [if_neg c2]
        rcases pn_dp_v σ e k (d + 1) (σ 27 e x.toNatClampNeg 3) with h | ⟨i, hi, h⟩
        · exact Or.inl h
        · exact Or.inr ⟨i, by omega, h⟩
theorem pn_N.par {k b : Nat} (hN : pn_N P L m σ n ρ k b) : ∀ p, p < P → pn_o P (σ 27 n p 3) := fun p hp => (hN.2.2.2.2.2.2.2.2.2.2.1 p hp).2.2.1
end WAYS
