/-- true ranks -/
def tA (σ : sx_M) (l : Nat) : Nat := (σ 9 0 0 l).toNatClampNeg
def tB (σ : sx_M) (l : Nat) : Nat := (σ 10 0 0 l).toNatClampNeg
def tS (σ : sx_M) (e l : Nat) : Nat := (pn_st σ e l).toNatClampNeg
def tU (σ : sx_M) (e : Nat) (w : Int32) (l : Nat) : Prop := ¬ nI l = w ∧ ¬ pn_nb σ e (tA σ l) (tB σ l) = 0
def tW (t : Nat → Nat) (a x : Nat) : Nat → Nat := fun j => if j = a then x else t j
def tM (t : Nat → Nat) : Nat := t 0 + t 1 + t 2 + t 3 + t 4 + t 5 + t 6
def tV (κ : Nat) (σ : sx_M) (t : Nat → Nat) : Prop := ∀ j, j < 7 → σ κ 0 0 j = nI (t j)
def tF (κ : Nat) (σ σ2 : sx_M) : Prop := ∀ k n p, ¬ k = κ → σ2 k n p = σ k n p
def tI (P L : Nat) (σ : sx_M) (e : Nat) (w : Int32) (t : Nat → Nat) : Prop := (t 0 = 10 ∧ ∀ j, 10 ≤ t j ∧ t j ≤ 9999) ∧ ∀ p, 0 < p → p < P → t p < 9999 → ∃ l, l < L ∧ tU σ e w l ∧ ((tB σ l = p ∧ t (tA σ l) + tS σ e l ≤ t p) ∨ (tA σ l = p ∧ t (tB σ l) + tS σ e l ≤ t p))
def tC (σ : sx_M) (e : Nat) (w : Int32) (t : Nat → Nat) (l : Nat) : Prop := tU σ e w l → t (tB σ l) ≤ t (tA σ l) + tS σ e l ∧ t (tA σ l) ≤ t (tB σ l) + tS σ e l
def tD (P L : Nat) (σ : sx_M) (e : Nat) (w : Int32) (t : Nat → Nat) : Prop := tI P L σ e w t ∧ ∀ l, l < L → tC σ e w t l
def tO (g : Int32) (t : Nat → Nat) (g2 : Int32) (t2 : Nat → Nat) (C : Prop) : Prop := (g2 = g ∧ t2 = t ∧ C) ∨ (g2 = 1 ∧ tM t2 < tM t)
theorem tO.tr {g g1 g2 : Int32} {t t1 t2 : Nat → Nat} {C1 : Prop} {C2 : (Nat → Nat) → Prop} (h1 : tO g t g1 t1 C1) (h2 : tO g1 t1 g2 t2 (C2 t1)) : tO g t g2 t2 (C1 ∧ C2 t) := by
  rcases h1 with ⟨e1, e2, c1⟩ | ⟨e1, s1⟩
  · subst e1; subst e2
    rcases h2 with ⟨e1, e2, c2⟩ | ⟨e1, s2⟩
    · exact Or.inl ⟨e1, e2, c1, c2⟩
    · exact Or.inr ⟨e1, s2⟩
  · rcases h2 with ⟨e3, e2, c2⟩ | ⟨e3, s2⟩
    · subst e2; exact Or.inr ⟨e3.trans e1, s1⟩
    · exact Or.inr ⟨e3, Nat.lt_trans s2 s1⟩
theorem tM_lt {t : Nat → Nat} {a x : Nat} (ha : a < 7) (hx : x < t a) : tM (tW t a x) < tM t := by
  have h : a = 0 ∨ a = 1 ∨ a = 2 ∨ a = 3 ∨ a = 4 ∨ a = 5 ∨ a = 6 := by omega
  rcases h with h | h | h | h | h | h | h <;> subst h <;> simp [tM, tW] <;> omega
theorem tV.u {κ : Nat} {σ : sx_M} {t : Nat → Nat} (h : tV κ σ t) (a x : Nat) : tV κ (sx_u σ κ 0 0 a (nI x)) (tW t a x) := fun j hj => by
  rw [sx_u_at]
  unfold tW
  by_cases c : j = a
  · rw [if_pos ⟨rfl, rfl, rfl, c⟩, if_pos c]
  · rw [if_neg (fun z => c z.2.2.2), if_neg c]; exact h j hj
theorem tF.u {κ : Nat} {σ σ2 : sx_M} (h : tF κ σ σ2) (a : Nat) (x : Int32) : tF κ σ (sx_u σ2 κ 0 0 a x) := fun k n p q => by
  rw [sx_u_row _ _ _ _ _ _ (fun z => q z.1)]; exact h k n p q
theorem tF.rf {κ : Nat} {σ : sx_M} : tF κ σ σ := fun _ _ _ _ => rfl
section TRUE
variable {P L v m e : Nat} {σ σ2 ρ ρ2 ρ0 : sx_M} {θ : sx_L} {w : Int32}
theorem pn_P.mF (h : pn_P P L v σ ρ) (hF : tF 74 ρ ρ2) : pn_P P L v σ ρ2 := h.mvA (fun _ _ _ _ _ => rfl) (by rw [hF 50 0 0 (by decide)]) (fun k h1 h2 => hF k 0 0 (by omega))
theorem pn_N.mF (h : pn_N P L m σ e ρ 68 0) (hF : tF 74 ρ ρ2) : pn_N P L m σ e ρ2 68 0 := h.mv (fun _ _ _ _ => rfl) (hF 68 0 0 (by decide))
theorem pn_P.mG (h : pn_P P L v σ ρ) (hF : tF 33 σ σ2) : pn_P P L v σ2 ρ := h.mvA (fun k n p _ _ => hF k n p (by omega)) rfl (fun _ _ _ => rfl)
theorem pn_N.mG {k b : Nat} (h : pn_N P L m σ e ρ k b) (hF : tF 33 σ σ2) : pn_N P L m σ2 e ρ k b := h.mv (fun k p _ _ => hF k e p (by omega)) rfl
theorem tL {k b : Nat} (hP : pn_P P L v σ ρ) (hN : pn_N P L m σ e ρ k b) {l : Nat} (hl : l < L) : (tA σ l < P ∧ tB σ l < P ∧ ¬ tA σ l = tB σ l) ∧ (σ 9 0 0 l = nI (tA σ l) ∧ σ 10 0 0 l = nI (tB σ l)) ∧ (10 ≤ tS σ e l ∧ tS σ e l ≤ 90 ∧ pn_st σ e l = nI (tS σ e l)) := by
  have h7 := hP.1.1
  obtain ⟨-, -, -, -, a, b, ha, hb, hab, e9, e10, -, -⟩ := hP.2.2.2.2.2.2.2 l hl
  have ea : tA σ l = a := by unfold tA; rw [e9]; exact nI_clamp (by omega)
  have eb : tB σ l = b := by unfold tB; rw [e10]; exact nI_clamp (by omega)
  obtain ⟨-, c, c1, c2, ec⟩ := hN.2.2.2.2.2.1 l hl
  have es : pn_st σ e l = nI 10 ∨ pn_st σ e l = nI (10 * c) := by
    unfold pn_st
    by_cases z : σ 8 0 0 7 = 0
    · rw [if_pos z]; exact Or.inl rfl
    · rw [if_neg z, ec]; exact Or.inr (pk_mul 10 c)
  rw [ea, eb]
  refine ⟨⟨ha, hb, hab⟩, ⟨e9, e10⟩, ?_⟩
  rcases es with z | z
  · have : tS σ e l = 10 := by unfold tS; rw [z]; exact nI_clamp (by omega)
    rw [this]; exact ⟨by omega, by omega, z⟩
  · have : tS σ e l = 10 * c := by unfold tS; rw [z]; exact nI_clamp (by omega)
    rw [this]; exact ⟨by omega, by omega, z⟩
theorem tI.rlx {t : Nat → Nat} (h : tI P L σ e w t) {l a b : Nat} (hl : l < L) (hu : tU σ e w l) (hab : ¬ a = b) (hc : (tA σ l = a ∧ tB σ l = b) ∨ (tA σ l = b ∧ tB σ l = a)) (hs : t a + tS σ e l < t b) : tI P L σ e w (tW t b (t a + tS σ e l)) := by
  obtain ⟨⟨h0, hb⟩, hp⟩ := h
  have wb : tW t b (t a + tS σ e l) b = t a + tS σ e l := if_pos rfl
  have wn : ∀ j, ¬ j = b → tW t b (t a + tS σ e l) j = t j := fun j hj => if_neg hj
  have wl : ∀ j, tW t b (t a + tS σ e l) j ≤ t j := fun j => by
    by_cases z : j = b
    · subst z; rw [wb]; omega
    · rw [wn j z]; exact Nat.le_refl _
  have ba := hb a
  have bb := hb b
  refine ⟨⟨?_, fun j => ?_⟩, fun p p0 pP ht => ?_⟩
  · rw [wn 0 (fun z => by subst z; omega)]; exact h0
  · by_cases z : j = b
    · subst z; rw [wb]; omega
    · rw [wn j z]; exact hb j
  · by_cases z : p = b
    · subst z
      refine ⟨l, hl, hu, ?_⟩
      rw [wb]
      rcases hc with ⟨c1, c2⟩ | ⟨c1, c2⟩
      · exact Or.inl ⟨c2, by rw [c1, wn a hab]; exact Nat.le_refl _⟩
      · exact Or.inr ⟨c1, by rw [c2, wn a hab]; exact Nat.le_refl _⟩
    · rw [wn p z] at ht ⊢
      obtain ⟨l2, k1, k2, k3⟩ := hp p p0 pP ht
      refine ⟨l2, k1, k2, ?_⟩
      rcases k3 with ⟨c1, c2⟩ | ⟨c1, c2⟩
      · exact Or.inl ⟨c1, Nat.le_trans (Nat.add_le_add_right (wl _) _) c2⟩
      · exact Or.inr ⟨c1, Nat.le_trans (Nat.add_le_add_right (wl _) _) c2⟩
theorem R_th2 {t : Nat → Nat} {a b s d : Nat} {g : Int32} (ha : a < 7) (hb : b < 7) (hs : s ≤ 90) (hV : tV 74 ρ t) (hB : ∀ j, 10 ≤ t j ∧ t j ≤ 9999) : (t a ≤ t b + s ∧ ∀ k33 k41 Q, k41 w g (nI d + 1) ρ θ → wp_Mo_finds_b164 k33 k41 Q w g (nI d) (nI a) (nI b) (nI s) ρ θ) ∨ (t b + s < t a ∧ ∀ k33 k41 Q, k41 w 1 (nI d + 1) (sx_u ρ 74 0 0 a (nI (t b + s))) θ → wp_Mo_finds_b164 k33 k41 Q w g (nI d) (nI a) (nI b) (nI s) ρ θ) := by
  have ca : (nI a).toNatClampNeg = a := nI_clamp (by omega)
  have cb : (nI b).toNatClampNeg = b := nI_clamp (by omega)
  have ia : vp_in (nI a) 7 := vp_in_nI ha (by decide)
  have ib : vp_in (nI b) 7 := vp_in_nI hb (by decide)
  have ta := hB a
  have tb := hB b
  by_cases c : t b + s < t a
  · refine Or.inr ⟨c, fun k33 k41 Q h => ?_⟩
    unfold wp_Mo_finds_b164 wp_Mo_finds_b216
    rw [ca, cb, hV a ha, hV b hb, nI_add, if_neg (show ¬ 9999 ≤ nI (t b) from nI_ge (b := 9999) (by omega) (by decide)), if_neg (nI_ge c (by omega))]
    exact ⟨ib, ib, ia, ib, ia, fun _ q => by subst q; exact h⟩
  · refine Or.inl ⟨by omega, fun k33 k41 Q h => ?_⟩
    unfold wp_Mo_finds_b164 wp_Mo_finds_b216
    rw [ca, cb, hV a ha, hV b hb, nI_add]
    refine ⟨ib, ?_⟩
    by_cases c2 : 9999 ≤ nI (t b)
    · rw [if_pos c2]; exact h
    · rw [if_neg c2, if_pos (nI_le (by omega) (by omega))]
      exact ⟨ib, ia, h⟩
theorem R_tlLoop (hP : pn_P P L v σ ρ0) (hN : pn_N P L m σ e ρ0 68 0) : ∀ (c d : Nat) (ρ : sx_M) (t : Nat → Nat) (g : Int32), d + c = L → tF 74 ρ0 ρ → tV 74 ρ t → tI P L σ e w t →
    ∃ ρ2 t2 g2, tF 74 ρ0 ρ2 ∧ tV 74 ρ2 t2 ∧ tI P L σ e w t2 ∧ tO g t g2 t2 (∀ l, d ≤ l → l < L → tC σ e w t l) ∧ ∀ k33 Q, k33 w g2 ρ2 θ → ∃ f, wp_Mo_finds_b41 k33 Q f w g (nI d) ρ θ
  | 0, d, ρ, t, g, hd, hF, hV, hI => by
    have hP' := hP.mF hF
    have : d = L := by omega
    subst this
    refine ⟨ρ, t, g, hF, hV, hI, Or.inl ⟨rfl, rfl, fun l h1 h2 => by omega⟩, fun k33 Q h => ⟨1, ?_⟩⟩
    have h16 := hP.1.2.1
    rw [wp_Mo_finds_b41, hP'.rL, if_pos (nI_le (Nat.le_refl _) (by omega))]
    exact ⟨hP'.live.1, h⟩
  | c + 1, d, ρ, t, g, hd, hF, hV, hI => by
    have hP' := hP.mF hF
    have hN' := hN.mF hF
    have hdL : d < L := by omega
    obtain ⟨h7, h16, hv⟩ := hP.1
    obtain ⟨⟨aP, bP, ab⟩, ⟨e9, e10⟩, s1, s2, es⟩ := tL hP hN hdL
    obtain ⟨q1, q2, -⟩ := hP'.2.2.2.2.2.2.2 d hdL
    have ex : (16 : Int32) * nI v + nI d = nI (16 * v + d) := by rw [show (16 : Int32) * nI v = nI (16 * v) from pk_mul 16 v, nI_add]
    have ix : vp_in (nI (16 * v + d)) 32 := vp_in_nI (by omega) (by decide)
    have cx : (nI (16 * v + d)).toNatClampNeg = 16 * v + d := nI_clamp (by omega)
    have ca : (nI (tA σ d)).toNatClampNeg = tA σ d := nI_clamp (by omega)
    have cb : (nI (tB σ d)).toNatClampNeg = tB σ d := nI_clamp (by omega)
    have ia : vp_in (nI (tA σ d)) 7 := vp_in_nI (by omega) (by decide)
    have ib : vp_in (nI (tB σ d)) 7 := vp_in_nI (by omega) (by decide)
    have nd : ¬ nI L ≤ nI d := nI_ge hdL (by omega)
    have ta := hI.1.2 (tA σ d)
    have tb := hI.1.2 (tB σ d)
    -- the body, up to where it begins
    have skip : ¬ tU σ e w d → ∃ ρ2 t2 g2, tF 74 ρ0 ρ2 ∧ tV 74 ρ2 t2 ∧ tI P L σ e w t2 ∧ tO g t g2 t2 (∀ l, d ≤ l → l < L → tC σ e w t l) ∧ ∀ k33 Q, k33 w g2 ρ2 θ → ∃ f, wp_Mo_finds_b41 k33 Q f w g (nI d) ρ θ := fun nu => by
      obtain ⟨ρ2, t2, g2, F2, V2, I2, O2, w2⟩ := R_tlLoop hP hN c (d + 1) ρ t g (by omega) hF hV hI
      refine ⟨ρ2, t2, g2, F2, V2, I2, ?_, fun k33 Q h => ?_⟩
      · rcases O2 with ⟨o1, o2, o3⟩ | o
        · refine Or.inl ⟨o1, o2, fun l h1 h2 => ?_⟩
          by_cases z : l = d
          · subst z; exact fun u => absurd u nu
          · exact o3 l (by omega) h2
        · exact Or.inr o
      · obtain ⟨f, hf⟩ := w2 k33 Q h
        refine ⟨f + 1, ?_⟩
        rw [wp_Mo_finds_b41, hP'.rL, if_neg nd, hP'.2.1.2.2.1, ex, cx, q1, q2, e9, e10]
        refine ⟨hP'.2.1.2.2.1 ▸ hP'.live.1, ix, ix, ?_⟩
        unfold wp_Mo_finds_b216
        rw [← nI_1] at hf
        by_cases z : nI d = w
        · rw [if_pos z]; exact hf
        · rw [if_neg z]
          refine R_near hP' hN' rfl rfl aP bP ?_
          rw [if_pos (Classical.byContradiction fun y => nu ⟨z, y⟩)]
          exact hf
    by_cases hu : tU σ e w d
    · have body : ∀ k33 (k41 : Int32 → Int32 → Int32 → sx_M → sx_L → Prop) Q f, k41 = wp_Mo_finds_b41 k33 Q f → (if 9999 ≤ nI (t (tA σ d)) then wp_Mo_finds_b164 k33 k41 Q w g (nI d) (nI (tA σ d)) (nI (tB σ d)) (nI (tS σ e d)) ρ θ else if nI (t (tB σ d)) ≤ nI (t (tA σ d) + tS σ e d) then wp_Mo_finds_b164 k33 k41 Q w g (nI d) (nI (tA σ d)) (nI (tB σ d)) (nI (tS σ e d)) ρ θ else wp_Mo_finds_b164 k33 k41 Q w 1 (nI d) (nI (tA σ d)) (nI (tB σ d)) (nI (tS σ e d)) (sx_u ρ 74 0 0 (tB σ d) (nI (t (tA σ d) + tS σ e d))) θ) → wp_Mo_finds_b41 k33 Q (f + 1) w g (nI d) ρ θ := fun k33 k41 Q f ek h => by
        subst ek
        rw [wp_Mo_finds_b41, hP'.rL, if_neg nd, hP'.2.1.2.2.1, ex, cx, q1, q2, e9, e10]
        refine ⟨hP'.2.1.2.2.1 ▸ hP'.live.1, ix, ix, ?_⟩
        rw [if_neg hu.1]
        refine R_near hP' hN' rfl rfl aP bP ?_
        rw [if_neg hu.2]
        refine R_step hP' hN' rfl hdL ?_
        rw [es, ca, cb, hV _ (by omega), hV _ (by omega), nI_add]
        refine ⟨ia, ?_⟩
        by_cases z : 9999 ≤ nI (t (tA σ d))
        · rw [if_pos z] at h ⊢; exact h
        · rw [if_neg z] at h ⊢
          by_cases y : nI (t (tB σ d)) ≤ nI (t (tA σ d) + tS σ e d)
          · rw [if_pos y] at h ⊢; exact ⟨ia, ib, h⟩
          · rw [if_neg y] at h ⊢; exact ⟨ia, ib, ia, ib, fun _ q => by subst q; exact h⟩
      -- first half
      obtain ⟨ρ1, t1, g1, F1, V1, I1, O1, w1⟩ : ∃ ρ1 t1 g1, tF 74 ρ0 ρ1 ∧ tV 74 ρ1 t1 ∧ tI P L σ e w t1 ∧ tO g t g1 t1 (t (tB σ d) ≤ t (tA σ d) + tS σ e d) ∧ ∀ k33 Q f, wp_Mo_finds_b164 k33 (wp_Mo_finds_b41 k33 Q f) Q w g1 (nI d) (nI (tA σ d)) (nI (tB σ d)) (nI (tS σ e d)) ρ1 θ → wp_Mo_finds_b41 k33 Q (f + 1) w g (nI d) ρ θ := by
        by_cases c1 : t (tA σ d) + tS σ e d < t (tB σ d)
        · refine ⟨_, _, 1, hF.u _ _, hV.u _ _, hI.rlx hdL hu ab (Or.inl ⟨rfl, rfl⟩) c1, Or.inr ⟨rfl, tM_lt (by omega) c1⟩, fun k33 Q f h => body k33 _ Q f rfl ?_⟩
          rw [if_neg (show ¬ 9999 ≤ nI (t (tA σ d)) from nI_ge (b := 9999) (by omega) (by decide)), if_neg (nI_ge c1 (by omega))]
          exact h
        · refine ⟨ρ, t, g, hF, hV, hI, Or.inl ⟨rfl, rfl, by omega⟩, fun k33 Q f h => body k33 _ Q f rfl ?_⟩
          by_cases z : 9999 ≤ nI (t (tA σ d))
          · rw [if_pos z]; exact h
          · rw [if_neg z, if_pos (nI_le (by omega) (by omega))]; exact h
      -- second half
      obtain ⟨ρ3, t3, g3, F3, V3, I3, O3, w3⟩ : ∃ ρ3 t3 g3, tF 74 ρ0 ρ3 ∧ tV 74 ρ3 t3 ∧ tI P L σ e w t3 ∧ tO g1 t1 g3 t3 (t1 (tA σ d) ≤ t1 (tB σ d) + tS σ e d) ∧ ∀ k33 (k41 : Int32 → Int32 → Int32 → sx_M → sx_L → Prop) Q, k41 w g3 (nI (d + 1)) ρ3 θ → wp_Mo_finds_b164 k33 k41 Q w g1 (nI d) (nI (tA σ d)) (nI (tB σ d)) (nI (tS σ e d)) ρ1 θ := by
        rcases R_th2 (θ := θ) (w := w) (a := tA σ d) (b := tB σ d) (s := tS σ e d) (d := d) (g := g1) (by omega) (by omega) s2 V1 I1.1.2 with ⟨c1, h⟩ | ⟨c1, h⟩
        · exact ⟨ρ1, t1, g1, F1, V1, I1, Or.inl ⟨rfl, rfl, c1⟩, fun k33 k41 Q q => h k33 k41 Q (by rw [nI_1]; exact q)⟩
        · exact ⟨_, _, 1, F1.u _ _, V1.u _ _, I1.rlx hdL hu (fun z => ab z.symm) (Or.inr ⟨rfl, rfl⟩) c1, Or.inr ⟨rfl, tM_lt (by omega) c1⟩, fun k33 k41 Q q => h k33 k41 Q (by rw [nI_1]; exact q)⟩
      obtain ⟨ρ2, t2, g2, F2, V2, I2, O2, w2⟩ := R_tlLoop hP hN c (d + 1) ρ3 t3 g3 (by omega) F3 V3 I3
      have O4 := O1.tr (C2 := fun t => t (tA σ d) ≤ t (tB σ d) + tS σ e d) O3
      have O5 := O4.tr (C2 := fun t => ∀ l, d + 1 ≤ l → l < L → tC σ e w t l) O2
      refine ⟨ρ2, t2, g2, F2, V2, I2, ?_, fun k33 Q h => ?_⟩
      · rcases O5 with ⟨o1, o2, ⟨o3, o4⟩, o5⟩ | o
        · refine Or.inl ⟨o1, o2, fun l h1 h2 => ?_⟩
          by_cases z : l = d
          · subst z; exact fun _ => ⟨o3, o4⟩
          · exact o5 l (by omega) h2
        · exact Or.inr o
      · obtain ⟨f, hf⟩ := w2 k33 Q h
        exact ⟨f + 1, w1 k33 Q f (w3 k33 _ Q hf)⟩
    · exact skip hu
theorem R_tw (hP : pn_P P L v σ ρ0) (hN : pn_N P L m σ e ρ0 68 0) : ∀ (n : Nat) (ρ : sx_M) (t : Nat → Nat), tM t ≤ n → tF 74 ρ0 ρ → tV 74 ρ t → tI P L σ e w t →
    ∃ ρ2 t2, tF 74 ρ0 ρ2 ∧ tV 74 ρ2 t2 ∧ tD P L σ e w t2 ∧ ∀ Q, Q ρ2 θ → ∃ f, wp_Mo_finds_b33 Q f w 1 ρ θ
  | 0, ρ, t, hn, hF, hV, hI => by
    have := hI.1.1
    unfold tM at hn
    omega
  | n + 1, ρ, t, hn, hF, hV, hI => by
    obtain ⟨ρ1, t1, g1, F1, V1, I1, O1, w1⟩ := R_tlLoop (θ := θ) hP hN L 0 ρ t 0 (by omega) hF hV hI
    rcases O1 with ⟨o1, o2, o3⟩ | ⟨o1, o2⟩
    · subst o1; subst o2
      refine ⟨ρ1, t1, F1, V1, ⟨I1, fun l hl => o3 l (Nat.zero_le _) hl⟩, fun Q h => ⟨2, ?_⟩⟩
      rw [wp_Mo_finds_b33, if_neg (by decide)]
      refine w1 _ Q ?_
      rw [wp_Mo_finds_b33, if_pos rfl]; exact h
    · subst o1
      obtain ⟨ρ2, t2, F2, V2, D2, w2⟩ := R_tw hP hN n ρ1 t1 (by omega) F1 V1 I1
      refine ⟨ρ2, t2, F2, V2, D2, fun Q h => ?_⟩
      obtain ⟨f, hf⟩ := w2 Q h
      refine ⟨f + 1, ?_⟩
      rw [wp_Mo_finds_b33, if_neg (by decide)]
      exact w1 _ Q hf
def t0 : Nat → Nat := fun j => if j = 0 then 10 else 9999
theorem R_tz : ∀ (c d : Nat) (ρ : sx_M), d + c = 7 → tF 74 ρ0 ρ → (∀ j, j < d → ρ 74 0 0 j = 9999) →
    ∃ ρ2, tF 74 ρ0 ρ2 ∧ tV 74 ρ2 t0 ∧ ∀ Q, (∃ f, wp_Mo_finds_b33 Q f w 1 ρ2 θ) → ∃ f, wp_Mo_finds_b2 Q f w (nI d) ρ θ
  | 0, d, ρ, hd, hF, h9 => by
    have : d = 7 := by omega
    subst this
    refine ⟨sx_u ρ 74 0 0 0 10, hF.u _ _, fun j hj => ?_, fun Q h => ⟨1, ?_⟩⟩
    · rw [sx_u_at]
      unfold t0
      by_cases z : j = 0
      · rw [if_pos ⟨rfl, rfl, rfl, z⟩, if_pos z]; rfl
      · rw [if_neg (fun y => z y.2.2.2), if_neg z]; exact h9 j hj
    · rw [wp_Mo_finds_b2, if_pos (by decide)]
      exact ⟨in_I (n := 0) rfl (by decide) (by decide), fun _ q => by subst q; exact h⟩
  | c + 1, d, ρ, hd, hF, h9 => by
    obtain ⟨ρ2, F2, V2, w2⟩ := R_tz c (d + 1) (sx_u ρ 74 0 0 d 9999) (by omega) (hF.u _ _) (fun j hj => by
      rw [sx_u_at]
      by_cases z : j = d
      · rw [if_pos ⟨rfl, rfl, rfl, z⟩]
      · rw [if_neg (fun y => z y.2.2.2)]; exact h9 j (by omega))
    refine ⟨ρ2, F2, V2, fun Q h => ?_⟩
    obtain ⟨f, hf⟩ := w2 Q h
    refine ⟨f + 1, ?_⟩
    rw [wp_Mo_finds_b2, if_neg (show ¬ 7 ≤ nI d from nI_ge (b := 7) (by omega) (by decide)), nI_clamp (n := d) (by omega), nI_1]
    exact ⟨vp_in_nI (by omega) (by decide), fun _ q => by subst q; exact hf⟩
theorem t0_I : tI P L σ e w t0 := by
  refine ⟨⟨rfl, fun j => ?_⟩, fun p p0 _ h => ?_⟩
  · unfold t0; by_cases z : j = 0
    · rw [if_pos z]; omega
    · rw [if_neg z]; omega
  · unfold t0 at h; rw [if_neg (by omega)] at h; omega
/-- the reference finds them -/
theorem R_finds (hP : pn_P P L v σ ρ) (hN : pn_N P L m σ e ρ 68 0) (w : Int32) : ∃ ρ2 d, tF 74 ρ ρ2 ∧ tV 74 ρ2 d ∧ tD P L σ e w d ∧ ∀ Q : sx_M → sx_L → Prop, Q ρ2 θ → wp_Mo_finds w ρ θ Q := by
  obtain ⟨ρ1, F1, V1, w1⟩ := R_tz (θ := θ) (w := w) 7 0 ρ rfl tF.rf (fun j hj => by omega)
  obtain ⟨ρ2, t2, F2, V2, D2, w2⟩ := R_tw (θ := θ) hP hN (tM t0) ρ1 t0 (Nat.le_refl _) F1 V1 t0_I
  exact ⟨ρ2, t2, F2, V2, D2, fun Q h => w1 Q (w2 Q h)⟩
/-- they are one -/
theorem tD_le {d1 d2 : Nat → Nat} (hS : ∀ l, l < L → (tA σ l < P ∧ tB σ l < P) ∧ 10 ≤ tS σ e l) (h1 : tD P L σ e w d1) (h2 : tD P L σ e w d2) : ∀ (n p : Nat), p < P → d2 p ≤ n → d1 p ≤ d2 p
  | 0, p, _, hn => by have := h2.1.1.2 p; omega
  | n + 1, p, hp, hn => by
    by_cases z : p = 0
    · subst z; rw [h1.1.1.1, h2.1.1.1]; exact Nat.le_refl _
    by_cases c : d2 p < 9999
    · obtain ⟨l, hl, hu, k⟩ := h2.1.2 p (by omega) hp c
      obtain ⟨⟨a1, a2⟩, a3⟩ := hS l hl
      obtain ⟨b1, b2⟩ := h1.2 l hl hu
      rcases k with ⟨k1, k2⟩ | ⟨k1, k2⟩
      · have := tD_le hS h1 h2 n (tA σ l) a1 (by omega)
        rw [k1] at b1; omega
      · have := tD_le hS h1 h2 n (tB σ l) a2 (by omega)
        rw [k1] at b2; omega
    · have := h1.1.1.2 p; omega
theorem tD_eq {k b : Nat} (hP : pn_P P L v σ ρ) (hN : pn_N P L m σ e ρ k b) {d1 d2 : Nat → Nat} (h1 : tD P L σ e w d1) (h2 : tD P L σ e w d2) {p : Nat} (hp : p < P) : d1 p = d2 p := by
  have hS : ∀ l, l < L → (tA σ l < P ∧ tB σ l < P) ∧ 10 ≤ tS σ e l := fun l hl => by
    obtain ⟨⟨x1, x2, -⟩, -, x3, -⟩ := tL hP hN hl
    exact ⟨⟨x1, x2⟩, x3⟩
  exact Nat.le_antisymm (tD_le hS h1 h2 _ p hp (Nat.le_refl _)) (tD_le hS h2 h1 _ p hp (Nat.le_refl _))
end TRUE
