/-- how many lie below -/
def tr_ (d : Nat → Nat) : Nat → Nat → Nat
  | 0, _ => 0
  | n + 1, x => tr_ d n x + (if d n < x then 1 else 0)
theorem tr_mono (d : Nat → Nat) {x y : Nat} (h : x ≤ y) : ∀ n, tr_ d n x ≤ tr_ d n y
  | 0 => Nat.le_refl _
  | n + 1 => by
    have := tr_mono d h n
    unfold tr_
    by_cases c : d n < x
    · rw [if_pos c, if_pos (by omega)]; omega
    · rw [if_neg c]; omega
theorem tr_lt (d : Nat → Nat) {x y q : Nat} (hx : x ≤ d q) (hy : d q < y) : ∀ n, q < n → tr_ d n x < tr_ d n y
  | 0, h => by omega
  | n + 1, h => by
    unfold tr_
    by_cases c : q = n
    · subst c
      have := tr_mono d (x := x) (y := y) (by omega) q
      rw [if_neg (by omega), if_pos hy]; omega
    · have := tr_lt d hx hy n (by omega)
      by_cases c : d n < x
      · rw [if_pos c, if_pos (by omega)]; omega
      · rw [if_neg c]; omega
theorem tr_le (d : Nat → Nat) (x : Nat) : ∀ n, tr_ d n x ≤ n
  | 0 => Nat.le_refl _
  | n + 1 => by
    have := tr_le d x n
    unfold tr_
    split <;> omega
theorem tr_self (d : Nat → Nat) {p n : Nat} (hp : p < n) : tr_ d n (d p) < n := Nat.lt_of_lt_of_le (tr_lt d (Nat.le_refl _) (Nat.lt_succ_self (d p)) n hp) (tr_le d _ n)
section RECKON
variable {P L v m e k b : Nat} {σ σ2 ρ ρ2 σ0 : sx_M} {θ : sx_L} {w : Int32} {d : Nat → Nat}
theorem min_I {x y : Nat} (hx : x < 2 ^ 31) (hy : y < 2 ^ 31) : (if nI x < nI y then nI x else nI y) = nI (min x y) := by
  by_cases c : x < y
  · rw [if_pos (nI_lt c hy), Nat.min_eq_left (by omega)]
  · rw [if_neg (nI_nlt (by omega) hx), Nat.min_eq_right (by omega)]
theorem C_tlLoop (hP : pn_P P L v σ0 ρ) (hN : pn_N P L m σ0 e ρ k b) (hD : tD P L σ0 e w d) : ∀ (c i : Nat) (σ : sx_M) (t : Nat → Nat), i + c = L → tF 33 σ0 σ → tV 33 σ t → (∀ j, d j ≤ t j ∧ t j ≤ 9999) →
    ∃ σ2 t2, tF 33 σ0 σ2 ∧ tV 33 σ2 t2 ∧ (∀ j, d j ≤ t2 j ∧ t2 j ≤ t j) ∧ (∀ l, i ≤ l → l < L → tU σ0 e w l → t2 (tB σ0 l) ≤ t (tA σ0 l) + tS σ0 e l ∧ t2 (tA σ0 l) ≤ t (tB σ0 l) + tS σ0 e l) ∧ ∀ (k42 : Nat → Int32 → Nat → Int32 → sx_M → Prop) Q v4, k42 e w 0 (v4 + 1) σ2 → ∃ f, wp_Tr_reckon_b54 k42 Q f e w 0 v4 (nI i) σ
  | 0, i, σ, t, hi, hF, hV, hB => by
    have hP' := hP.mG hF
    have h16 := hP.1.2.1
    refine ⟨σ, t, hF, hV, fun j => ⟨(hB j).1, Nat.le_refl _⟩, fun l h1 h2 => by omega, fun k42 Q v4 h => ⟨1, ?_⟩⟩
    rw [wp_Tr_reckon_b54, hP'.2.1.2.1, if_pos (nI_le (by omega) (by omega))]
    exact h
  | c + 1, i, σ, t, hi, hF, hV, hB => by
    have hP' := hP.mG hF
    have hiL : i < L := by omega
    obtain ⟨h7, h16, hv⟩ := hP.1
    obtain ⟨⟨aP, bP, ab⟩, ⟨e9, e10⟩, s1, s2, es⟩ := tL hP hN hiL
    have f9 : σ 9 0 0 i = nI (tA σ0 i) := by rw [hF 9 0 0 (by decide)]; exact e9
    have f10 : σ 10 0 0 i = nI (tB σ0 i) := by rw [hF 10 0 0 (by decide)]; exact e10
    have ii : vp_in (nI i) 16 := vp_in_nI (by omega) (by decide)
    have ci : (nI i).toNatClampNeg = i := nI_clamp (by omega)
    have ca : (nI (tA σ0 i)).toNatClampNeg = tA σ0 i := nI_clamp (by omega)
    have cb : (nI (tB σ0 i)).toNatClampNeg = tB σ0 i := nI_clamp (by omega)
    have ia : vp_in (nI (tA σ0 i)) 7 := vp_in_nI (by omega) (by decide)
    have ib : vp_in (nI (tB σ0 i)) 7 := vp_in_nI (by omega) (by decide)
    have ni : ¬ nI L ≤ nI i := nI_ge hiL (by omega)
    have enb : pn_nb σ e (tA σ0 i) (tB σ0 i) = pn_nb σ0 e (tA σ0 i) (tB σ0 i) := by
      unfold pn_nb; rw [hF 13 0 _ (by decide), hF 18 e 0 (by decide), hF 27 e _ (by decide), hF 27 e _ (by decide)]
    have est : pn_st σ e i = nI (tS σ0 e i) := by
      rw [← es]; unfold pn_st; rw [hF 8 0 0 (by decide), hF 19 e 0 (by decide)]
    by_cases hu : tU σ0 e w i
    · obtain ⟨d1, d2⟩ := hD.2 i hiL hu
      have ba := hB (tA σ0 i)
      have bb := hB (tB σ0 i)
      obtain ⟨x1, ex1⟩ : ∃ x, x = min (t (tB σ0 i) + tS σ0 e i) (t (tA σ0 i)) := ⟨_, rfl⟩
      obtain ⟨x2, ex2⟩ : ∃ x, x = min (x1 + tS σ0 e i) (t (tB σ0 i)) := ⟨_, rfl⟩
      have V1 := hV.u (tA σ0 i) x1
      have V2 := V1.u (tB σ0 i) x2
      have wa : tW t (tA σ0 i) x1 (tA σ0 i) = x1 := if_pos rfl
      have wb : tW t (tA σ0 i) x1 (tB σ0 i) = t (tB σ0 i) := if_neg (fun z => ab z.symm)
      have t2a : tW (tW t (tA σ0 i) x1) (tB σ0 i) x2 (tA σ0 i) = x1 := (if_neg ab).trans wa
      have t2b : tW (tW t (tA σ0 i) x1) (tB σ0 i) x2 (tB σ0 i) = x2 := if_pos rfl
      have bt : ∀ j, d j ≤ tW (tW t (tA σ0 i) x1) (tB σ0 i) x2 j ∧ tW (tW t (tA σ0 i) x1) (tB σ0 i) x2 j ≤ t j := fun j => by
        by_cases z1 : j = tB σ0 i
        · subst z1; rw [t2b]; omega
        by_cases z2 : j = tA σ0 i
        · subst z2; rw [t2a]; omega
        · rw [show tW (tW t (tA σ0 i) x1) (tB σ0 i) x2 j = t j from (if_neg z1).trans (if_neg z2)]
          exact ⟨(hB j).1, Nat.le_refl _⟩
      obtain ⟨σ2, t2, F2, V3, B2, C2, w2⟩ := C_tlLoop hP hN hD c (i + 1) _ _ (by omega) ((hF.u (tA σ0 i) (nI x1)).u (tB σ0 i) (nI x2)) V2 (fun j => ⟨(bt j).1, Nat.le_trans (bt j).2 (hB j).2⟩)
      refine ⟨σ2, t2, F2, V3, fun j => ⟨(B2 j).1, Nat.le_trans (B2 j).2 (bt j).2⟩, fun l h1 h2 h3 => ?_, fun k42 Q v4 h => ?_⟩
      · by_cases z : l = i
        · subst z
          have ga := (B2 (tA σ0 l)).2
          have gb := (B2 (tB σ0 l)).2
          rw [t2a] at ga
          rw [t2b] at gb
          omega
        · obtain ⟨y1, y2⟩ := C2 l (by omega) h2 h3
          have ga := (bt (tA σ0 l)).2
          have gb := (bt (tB σ0 l)).2
          omega
      · obtain ⟨f, hf⟩ := w2 k42 Q v4 h
        refine ⟨f + 1, ?_⟩
        rw [wp_Tr_reckon_b54, hP'.2.1.2.1, if_neg ni, ci, f9, f10]
        refine ⟨ii, ii, ?_⟩
        rw [if_neg hu.1]
        refine C_near hP' rfl rfl aP bP ?_
        rw [enb, if_neg hu.2]
        refine C_step hP' rfl hiL ?_
        rw [est, ca, cb]
        refine ⟨ia, ib, ia, fun σ3 q3 => ?_⟩
        rw [hV _ (by omega), hV _ (by omega), nI_add, min_I (by omega) (by omega), ← ex1] at q3
        subst q3
        refine ⟨ib, ia, ib, fun σ4 q4 => ?_⟩
        rw [V1 _ (by omega), V1 _ (by omega), wa, wb, nI_add, min_I (by omega) (by omega), ← ex2] at q4
        subst q4
        unfold wp_Tr_reckon_b160
        rw [nI_1]
        exact hf
    · obtain ⟨σ2, t2, F2, V3, B2, C2, w2⟩ := C_tlLoop hP hN hD c (i + 1) σ t (by omega) hF hV hB
      refine ⟨σ2, t2, F2, V3, B2, fun l h1 h2 h3 => ?_, fun k42 Q v4 h => ?_⟩
      · by_cases z : l = i
        · subst z; exact absurd h3 hu
        · exact C2 l (by omega) h2 h3
      · obtain ⟨f, hf⟩ := w2 k42 Q v4 h
        refine ⟨f + 1, ?_⟩
        rw [wp_Tr_reckon_b54, hP'.2.1.2.1, if_neg ni, ci, f9, f10]
        refine ⟨ii, ii, ?_⟩
        unfold wp_Tr_reckon_b160
        rw [nI_1]
        by_cases z : nI i = w
        · rw [if_pos z]; exact hf
        · rw [if_neg z]
          refine C_near hP' rfl rfl aP bP ?_
          rw [enb, if_pos (Classical.byContradiction fun y => hu ⟨z, y⟩)]
          exact hf
theorem C_trLoop (hP : pn_P P L v σ0 ρ) (hN : pn_N P L m σ0 e ρ k b) (hD : tD P L σ0 e w d) : ∀ (c i : Nat) (σ : sx_M) (t : Nat → Nat), i + 1 + c = P → tF 33 σ0 σ → tV 33 σ t → (∀ j, d j ≤ t j ∧ t j ≤ 9999) → t 0 = 10 → (∀ p, p < P → tr_ d P (d p) ≤ i → t p = d p) →
    ∃ σ2, tF 33 σ0 σ2 ∧ (∀ j, j < P → σ2 33 0 0 j = nI (d j)) ∧ ∀ Q, Q σ2 → ∃ f, wp_Tr_reckon_b42 Q f e w 0 (nI (i + 1)) σ
  | 0, i, σ, t, hi, hF, hV, hB, h0, hr => by
    have hP' := hP.mG hF
    have h7 := hP.1.1
    refine ⟨σ, hF, fun j hj => ?_, fun Q h => ⟨1, ?_⟩⟩
    · rw [hV j (by omega), hr j hj (by have := tr_self d hj; omega)]
    · rw [wp_Tr_reckon_b42, hP'.2.1.1, if_pos (nI_le (by omega) (by omega))]; exact h
  | c + 1, i, σ, t, hi, hF, hV, hB, h0, hr => by
    have hP' := hP.mG hF
    have h7 := hP.1.1
    obtain ⟨σ1, t1, F1, V1, B1, C1, w1⟩ := C_tlLoop hP hN hD L 0 σ t (by omega) hF hV hB
    have z1 : t1 0 = 10 := by have := B1 0; have := hD.1.1.1; omega
    obtain ⟨σ2, F2, E2, w2⟩ := C_trLoop hP hN hD c (i + 1) σ1 t1 (by omega) F1 V1 (fun j => ⟨(B1 j).1, Nat.le_trans (B1 j).2 (hB j).2⟩) z1 (fun p hp hq => by
      have bp := B1 p
      by_cases z : p = 0
      · subst z; rw [z1, hD.1.1.1]
      by_cases c : d p < 9999
      · obtain ⟨l, hl, hu, y⟩ := hD.1.2 p (by omega) hp c
        obtain ⟨⟨aP, bP, -⟩, -, s1, -⟩ := tL hP hN hl
        obtain ⟨g1, g2⟩ := C1 l (Nat.zero_le _) hl hu
        rcases y with ⟨y1, y2⟩ | ⟨y1, y2⟩
        · have := hr (tA σ0 l) aP (by have := tr_lt d (q := tA σ0 l) (x := d (tA σ0 l)) (y := d p) (Nat.le_refl _) (by omega) P aP; omega)
          rw [y1] at g1; omega
        · have := hr (tB σ0 l) bP (by have := tr_lt d (q := tB σ0 l) (x := d (tB σ0 l)) (y := d p) (Nat.le_refl _) (by omega) P bP; omega)
          rw [y1] at g2; omega
      · have := hB p; omega)
    refine ⟨σ2, F2, E2, fun Q h => ?_⟩
    obtain ⟨f, hf⟩ := w2 Q h
    refine ⟨f + 1, ?_⟩
    rw [wp_Tr_reckon_b42, hP'.2.1.1, if_neg (nI_ge (by omega) (by omega))]
    exact w1 _ Q _ (by rw [nI_1]; exact hf)
theorem C_tz : ∀ (c i : Nat) (σ : sx_M), i + c = 7 → tF 33 σ0 σ → (∀ j, j < i → σ 33 0 0 j = 9999) →
    ∃ σ2, tF 33 σ0 σ2 ∧ tV 33 σ2 t0 ∧ ∀ Q, (∃ f, wp_Tr_reckon_b42 Q f e w 0 1 σ2) → ∃ f, wp_Tr_reckon_b8 Q f e w 0 (nI i) σ
  | 0, i, σ, hd, hF, h9 => by
    have : i = 7 := by omega
    subst this
    refine ⟨sx_u σ 33 0 0 0 10, hF.u _ _, fun j hj => ?_, fun Q h => ⟨1, ?_⟩⟩
    · rw [sx_u_at]
      unfold t0
      by_cases z : j = 0
      · rw [if_pos ⟨rfl, rfl, rfl, z⟩, if_pos z]; rfl
      · rw [if_neg (fun y => z y.2.2.2), if_neg z]; exact h9 j hj
    · rw [wp_Tr_reckon_b8, if_pos (by decide)]
      exact ⟨in_I (n := 0) rfl (by decide) (by decide), fun _ q => by subst q; exact h⟩
  | c + 1, i, σ, hd, hF, h9 => by
    obtain ⟨σ2, F2, V2, w2⟩ := C_tz c (i + 1) (sx_u σ 33 0 0 i 9999) (by omega) (hF.u _ _) (fun j hj => by
      rw [sx_u_at]
      by_cases z : j = i
      · rw [if_pos ⟨rfl, rfl, rfl, z⟩]
      · rw [if_neg (fun y => z y.2.2.2)]; exact h9 j (by omega))
    refine ⟨σ2, F2, V2, fun Q h => ?_⟩
    obtain ⟨f, hf⟩ := w2 Q h
    refine ⟨f + 1, ?_⟩
    rw [wp_Tr_reckon_b8, if_neg (show ¬ 7 ≤ nI i from nI_ge (b := 7) (by omega) (by decide)), nI_clamp (n := i) (by omega), nI_1]
    exact ⟨vp_in_nI (by omega) (by decide), fun _ q => by subst q; exact hf⟩
/-- the class reckons them -/
theorem C_reckon (hP : pn_P P L v σ ρ) (hN : pn_N P L m σ e ρ k b) (hD : tD P L σ e w d) : ∃ σ2, tF 33 σ σ2 ∧ (∀ j, j < P → σ2 33 0 0 j = nI (d j)) ∧ ∀ Q : sx_M → Prop, Q σ2 → wp_Tr_reckon e w σ Q := by
  obtain ⟨σ1, F1, V1, w1⟩ := C_tz (e := e) (w := w) 7 0 σ rfl tF.rf (fun j hj => by omega)
  have h7 := hP.1.1
  by_cases hP0 : P = 0
  · subst hP0
    refine ⟨σ1, F1, fun j hj => by omega, fun Q h => w1 Q ⟨1, ?_⟩⟩
    rw [wp_Tr_reckon_b42, (hP.mG F1).2.1.1, if_pos (by decide)]; exact h
  · obtain ⟨σ2, F2, E2, w2⟩ := C_trLoop hP hN hD (P - 1) 0 σ1 t0 (by omega) F1 V1 (fun j => by
      have := hD.1.1.2 j
      have := hD.1.1.1
      unfold t0
      by_cases z : j = 0
      · subst z; rw [if_pos rfl]; omega
      · rw [if_neg z]; omega) rfl (fun p hp hq => by
      by_cases z : p = 0
      · subst z; rw [hD.1.1.1]; rfl
      · have e0 : t0 p = 9999 := if_neg z
        rw [e0]
        by_cases c : d p < 9999
        · obtain ⟨l, hl, hu, y⟩ := hD.1.2 p (by omega) hp c
          obtain ⟨⟨aP, bP, -⟩, -, s1, -⟩ := tL hP hN hl
          rcases y with ⟨y1, y2⟩ | ⟨y1, y2⟩
          · have := tr_lt d (q := tA σ l) (x := d (tA σ l)) (y := d p) (Nat.le_refl _) (by omega) P aP; omega
          · have := tr_lt d (q := tB σ l) (x := d (tB σ l)) (y := d p) (Nat.le_refl _) (by omega) P bP; omega
        · have := hD.1.1.2 p; omega)
    exact ⟨σ2, F2, E2, fun Q h => w1 Q (w2 Q h)⟩
/-- what they hang on -/
theorem tD.mv {e2 : Nat} (hD : tD P L σ e w d) (hP : pn_P P L v σ ρ) (hf : ∀ k n p, 8 ≤ k → k < 16 → σ2 k n p = σ k n p) (h18 : ∀ q l, (q = 18 ∨ q = 19) → l < L → σ2 q e2 0 l = σ q e 0 l) (h27 : ∀ p, p < P → σ2 27 e2 p 0 = σ 27 e p 0) : tD P L σ2 e2 w d := by
  have h7 := hP.1.1
  have h16 := hP.1.2.1
  have eA : ∀ l, tA σ2 l = tA σ l := fun l => by unfold tA; rw [hf 9 0 0 (by decide) (by decide)]
  have eB : ∀ l, tB σ2 l = tB σ l := fun l => by unfold tB; rw [hf 10 0 0 (by decide) (by decide)]
  have eS : ∀ l, l < L → tS σ2 e2 l = tS σ e l := fun l hl => by unfold tS pn_st; rw [hf 8 0 0 (by decide) (by decide), h18 19 l (by simp) hl]
  have eU : ∀ l, l < L → (tU σ2 e2 w l ↔ tU σ e w l) := fun l hl => by
    obtain ⟨-, -, -, -, a, b, ha, hb, hab, e9, e10, el, -⟩ := hP.2.2.2.2.2.2.2 l hl
    have ea : tA σ l = a := by unfold tA; rw [e9]; exact nI_clamp (by omega)
    have eb : tB σ l = b := by unfold tB; rw [e10]; exact nI_clamp (by omega)
    unfold tU
    rw [eA, eB, ea, eb]
    unfold pn_nb
    rw [hf 13 0 _ (by decide) (by decide), el, nI_clamp (n := l) (by omega), h18 18 l (by simp) hl, h27 a ha, h27 b hb]
  refine ⟨⟨hD.1.1, fun p p0 pP hp => ?_⟩, fun l hl hu => ?_⟩
  · obtain ⟨l, hl, hu, y⟩ := hD.1.2 p p0 pP hp
    refine ⟨l, hl, (eU l hl).mpr hu, ?_⟩
    rw [eA, eB, eS l hl]; exact y
  · rw [eA, eB, eS l hl]; exact hD.2 l hl ((eU l hl).mp hu)
end RECKON
