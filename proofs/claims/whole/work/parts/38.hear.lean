section HEAR
variable {P L v m e : Nat} {σ σ2 ρ : sx_M} {θ : sx_L}
/-- a choice of one that has chosen changes nothing -/
theorem C_noop (hT : pn_T P L v m e σ ρ) {p : Nat} (hp : p < P) (hz : 0 < p → ¬ σ 27 e p 0 = 0 → σ 27 e p 5 ≤ 0 → pn_zz P σ e p) {Q : sx_M → Prop} (h : Q σ) : wp_En_choose e (nI p) σ Q := by
  have h7 := hT.p7
  have ip : vp_in (nI p) 7 := vp_in_nI (by omega) (by decide)
  have cp : (nI p).toNatClampNeg = p := nI_clamp (by omega)
  unfold wp_En_choose wp_En_choose_b28
  rw [cp]
  refine ⟨ip, ?_⟩
  by_cases p0 : p = 0
  · subst p0; rw [if_pos (show nI 0 = 0 from rfl)]; exact h
  · have pn0 : ¬ nI p = 0 := nI_ne0 (by omega) (by omega)
    rw [if_neg pn0]
    by_cases c1 : σ 27 e p 0 = 0
    · rw [if_pos c1]; exact h
    · rw [if_neg c1]
      by_cases c2 : σ 27 e p 5 ≤ 0
      · rw [if_pos c2]
        obtain ⟨z1, z2⟩ := hz (by omega) c1 c2
        have hbo : pn_o P (pn_bo σ e p (-2) P).1 := by
          rcases pn_bo_v hT.2.1 hT.2.2.1 hp (-2) P (Nat.le_refl _) with h | ⟨q, x, h1, h2, h3, h4, h5⟩
          · rw [h]; exact Or.inl rfl
          · rw [h4]; exact Or.inr ⟨q, h1, rfl⟩
        refine C_best hT.2.1 hp (-2) ?_
        refine C_isKept hT hp hbo ?_
        have fin : wp_En_choose_b71 e Q (nI p) e p (σ 27 e p 2) (σ 27 e p 3) e (nI p) (pn_c σ e p P) σ := by
          unfold wp_En_choose_b71
          have last : wp_En_settle_b107 e (fun σ8 => if σ8 27 e p 2 = σ 27 e p 2 then wp_En_choose_b87 e Q (nI p) e p (σ 27 e p 3) σ8 else wp_En_beginAnew e (nI p) σ8 fun σ10 => wp_En_choose_b87 e Q (nI p) e p (σ 27 e p 3) σ10) (pn_c σ e p P) e p (σ 27 e p 2) σ := by
            unfold wp_En_settle_b107 wp_En_settle_b131
            rw [← z1]
            intro _ q; rw [sx_u_id σ 27 e p 3 rfl] at q; subst q
            intro _ q; rw [sx_u_id _ 27 e p 2 rfl] at q; subst q
            intro _ q
            rw [sx_u_id] at q
            · subst q
              rw [if_pos rfl]
              unfold wp_En_choose_b87 wp_En_choose_b149
              rw [if_pos rfl]
              exact h
            · rcases z2 with ⟨y1, y2⟩ | ⟨y1, y2, y3, y4⟩
              · obtain ⟨lw, hlw, elw⟩ := (hT.2.2.1.2.2.2.2.2.2.2.2.2.2.1 p hp).2.2.2.1
                rw [y2, if_neg]
                rw [elw]
                exact nI_nlt (a := 9999) (b := lw) (by omega) (by decide)
              · rw [if_neg y4]
          unfold wp_En_settle
          rw [cp]
          refine ⟨ip, ?_⟩
          rcases z2 with ⟨y1, y2⟩ | ⟨y1, y2, y3, y4⟩
          · rw [if_pos y1]
            unfold wp_En_settle_b31
            rw [if_pos y1, ← y2]
            exact last
          · rw [if_neg y1]
            obtain ⟨q, x, h1, h2, h3, h4⟩ := (pn_c_v hT hp).resolve_left y1
            refine C_offer hT.2.1 rfl h3 hp h1 ?_
            unfold wp_En_settle_b31
            rw [if_neg y1]
            refine ⟨in_I (n := 4) rfl (by decide) (by decide), ?_⟩
            have eo : pn_of σ e p q = σ 27 e p 2 := by rw [y2, h3, nI_clamp (n := q) (by omega)]
            rw [eo]
            show if σ 27 e p 2 ≤ σ 27 e p 4 + σ 14 0 0 4 then _ else _
            rw [if_pos y3]
            exact last
        unfold pn_c at fin
        by_cases c4 : pn_kp σ e p (pn_bo σ e p (-2) P).1 = 0
        · rw [if_pos c4] at fin ⊢; exact fin
        · rw [if_neg c4] at fin ⊢; exact fin
      · rw [if_neg c2]; exact h
theorem pn_T.setH (hT : pn_T P L v m e σ ρ) {p0 j0 : Nat} (hp0 : p0 < P) (hj0 : j0 < 7) {x : Int32} (hx : pn_r 20000 x) : pn_T P L v m e (sx_u σ 28 e p0 j0 x) (sx_u ρ 68 0 0 (96 + 7 * p0 + j0) x) := by
  obtain ⟨he, hP, hN, hs⟩ := hT
  have f1 : pn_f e σ (sx_u σ 28 e p0 j0 x) := pn_f.rf.u ⟨by omega, rfl⟩
  have g1 : pn_g ρ (sx_u ρ 68 0 0 (96 + 7 * p0 + j0) x) := pn_g.rf.u rfl
  have h := hN.setH hp0 hj0 hx
  rw [Nat.zero_add] at h
  exact ⟨he, hP.mv f1 g1, h, by rw [f1.1 31 e 0 (by omega), g1 50 0 0 (by omega)]; exact hs⟩
/-- all that was heard is forgotten, the first k -/
def fgC (e p : Nat) (σ : sx_M) : Nat → sx_M
  | 0 => σ
  | k + 1 => sx_u (fgC e p σ k) 28 e p k 9999
def fgR (p : Nat) (ρ : sx_M) : Nat → sx_M
  | 0 => ρ
  | k + 1 => sx_u (fgR p ρ k) 68 0 0 (96 + 7 * p + k) 9999
theorem fgR_u (p : Nat) (ρ : sx_M) {i : Nat} (x : Int32) (hi : i < 96) : ∀ k, fgR p (sx_u ρ 68 0 0 i x) k = sx_u (fgR p ρ k) 68 0 0 i x
  | 0 => rfl
  | k + 1 => by
    unfold fgR
    rw [fgR_u p ρ x hi k, sx_u_comm _ 68 0 0 (i := i) (j := 96 + 7 * p + k) (by omega)]
theorem fg_T {p : Nat} (hp : p < P) (hT : pn_T P L v m e σ ρ) : ∀ k, k ≤ 7 → pn_T P L v m e (fgC e p σ k) (fgR p ρ k) ∧ pn_f e σ (fgC e p σ k) ∧ pn_g ρ (fgR p ρ k) ∧ (∀ q p', ¬ (q = 28 ∧ p' = p) → fgC e p σ k q e p' = σ q e p')
  | 0, _ => ⟨hT, pn_f.rf, pn_g.rf, fun _ _ _ => rfl⟩
  | k + 1, hk => by
    obtain ⟨a, b, c, d⟩ := fg_T hp hT k (by omega)
    refine ⟨a.setH hp (by omega) ⟨9999, by decide, rfl⟩, b.u ⟨by omega, rfl⟩, c.u rfl, fun q p' h => ?_⟩
    show sx_u (fgC e p σ k) 28 e p k 9999 q e p' = _
    rw [sx_u_row _ _ _ _ _ _ (fun z => h ⟨z.1, z.2.2⟩)]
    exact d q p' h
theorem C_forget {p : Nat} {Q : sx_M → Prop} (h : Q (fgC e p σ 7)) : ∀ (c d : Nat), d + c = 7 → ∃ f, wp_Po_forgetHeard_b2 e p Q f (nI d) (fgC e p σ d)
  | 0, d, hd => by
    have : d = 7 := by omega
    subst this
    exact ⟨1, by rw [wp_Po_forgetHeard_b2, if_pos (show (7 : Int32) ≤ nI 7 by decide)]; exact h⟩
  | c + 1, d, hd => by
    obtain ⟨f, hf⟩ := C_forget h c (d + 1) (by omega)
    refine ⟨f + 1, ?_⟩
    rw [wp_Po_forgetHeard_b2, if_neg (show ¬ (7 : Int32) ≤ nI d from nI_ge (a := d) (b := 7) (by omega) (by decide)), nI_clamp (n := d) (by omega), nI_1]
    exact ⟨vp_in_nI (by omega) (by decide), fun _ q => by subst q; exact hf⟩
theorem R_forget {p : Nat} (hp : p < 7) {v2 v4 : Int32} {Q : sx_M → sx_L → Prop} (h : wp_Mo_hears_b80 Q (nI p) v2 v4 (96 + (7 * nI p)) (sx_u (fgR p ρ 7) 68 0 0 (26 + 10 * p + 3) 9999) θ) : ∀ (c d : Nat), d + c = 7 → ∃ f, wp_Mo_hears_b45 Q f (nI p) v2 v4 (96 + (7 * nI p)) (nI d) (fgR p ρ d) θ
  | 0, d, hd => by
    have : d = 7 := by omega
    subst this
    refine ⟨1, ?_⟩
    rw [wp_Mo_hears_b45, if_pos (show (7 : Int32) ≤ nI 7 by decide)]
    exact R_keeps (i := 3) rfl rfl hp (by decide) h
  | c + 1, d, hd => by
    obtain ⟨f, hf⟩ := R_forget hp h c (d + 1) (by omega)
    refine ⟨f + 1, ?_⟩
    have e1 : ((96 : Int32) + (7 * nI p)) + nI d = nI (96 + 7 * p + d) := ix_2 96 7 p d
    rw [wp_Mo_hears_b45, if_neg (show ¬ (7 : Int32) ≤ nI d from nI_ge (a := d) (b := 7) (by omega) (by decide)), e1, nI_clamp (n := 96 + 7 * p + d) (by omega), nI_1]
    exact ⟨vp_in_nI (by omega) (by decide), fun _ q => by subst q; exact hf⟩
/-- an advert comes and is heard: then it chooses -/
theorem S_hear (hT : pn_T P L v m e σ ρ) (hZ : pn_Z P σ e (fun _ => False)) {p a u r : Nat} (hp : p < P) (ha : a < P) (hu : u ≤ 99) (hr : r ≤ 20000) :
    ∃ m2 σ2 ρ2, pn_T P L v m2 e σ2 ρ2 ∧ pn_f e σ σ2 ∧ pn_g ρ ρ2 ∧ pn_Z P σ2 e (fun _ => False) ∧ (∀ Q : sx_M → Prop, Q σ2 → wp_En_hearAdvert e (nI a) (nI p) (nI u) (nI r) σ (fun σ8 => wp_En_choose e (nI p) σ8 Q)) ∧ (∀ Q : sx_M → sx_L → Prop, Q ρ2 θ → wp_Mo_hears (nI p) (nI a) (nI u) (nI r) ρ θ Q) := by
  have h7 := hT.p7
  have no : ∀ {A : Prop} {i j : Nat}, i ≠ j → i = j → A := fun h1 h2 => absurd h2 h1
  have ip : vp_in (nI p) 7 := vp_in_nI (by omega) (by decide)
  have cp : (nI p).toNatClampNeg = p := nI_clamp (by omega)
  have ia : vp_in (nI a) 7 := vp_in_nI (by omega) (by decide)
  have ca : (nI a).toNatClampNeg = a := nI_clamp (by omega)
  have e0 : ρ 68 0 0 (26 + 10 * p + 0) = σ 27 e p 1 := hT.fld hp (w := 0) (by decide)
  have e1 : ((96 : Int32) + (7 * nI p)) + nI a = nI (96 + 7 * p + a) := ix_2 96 7 p a
  by_cases c1 : σ 27 e p 1 ≤ nI u
  · -- the part that both kinds share
    have tail : ∀ (m1 : Nat) (σ1 ρ1 : sx_M), pn_T P L v m1 e σ1 ρ1 → pn_Z P σ1 e (fun x => x = p) →
        ∃ m2 σ2 ρ2, pn_T P L v m2 e σ2 ρ2 ∧ pn_f e σ1 σ2 ∧ pn_g ρ1 ρ2 ∧ pn_Z P σ2 e (fun _ => False) ∧ (∀ Q : sx_M → Prop, Q σ2 → wp_En_hearAdvert_b54 e (fun σ8 => wp_En_choose e (nI p) σ8 Q) (nI a) (nI p) (nI r) e p σ1) ∧ (∀ Q : sx_M → sx_L → Prop, Q ρ2 θ → wp_Mo_hears_b80 Q (nI p) (nI a) (nI r) (96 + (7 * nI p)) ρ1 θ) := by
      intro m1 σ1 ρ1 T1 Z1
      -- behind the timer
      have tail2 : ∀ (m2 : Nat) (σ2 ρ2 : sx_M), pn_T P L v m2 e σ2 ρ2 → pn_Z P σ2 e (fun x => x = p) →
          ∃ m3 σ3 ρ3, pn_T P L v m3 e σ3 ρ3 ∧ pn_f e σ2 σ3 ∧ pn_g ρ2 ρ3 ∧ pn_Z P σ3 e (fun _ => False) ∧ (∀ Q : sx_M → Prop, Q σ3 → wp_En_hearAdvert_b85 e (fun σ8 => wp_En_choose e (nI p) σ8 Q) (nI a) (nI r) e p σ2) ∧ (∀ Q : sx_M → sx_L → Prop, Q ρ3 θ → wp_Mo_hears_b118 Q (nI p) (nI a) (nI r) (96 + (7 * nI p)) ρ2 θ) := by
        intro m2 σ2 ρ2 T2 Z2
        have T3 := T2.setH hp (j0 := a) (x := nI r) (by omega) ⟨r, hr, rfl⟩
        have f3 : pn_f e σ2 (sx_u σ2 28 e p a (nI r)) := pn_f.rf.u ⟨by omega, rfl⟩
        obtain ⟨m4, σ4, ρ4, T4, f4, g4, q4, z4, wC, wR⟩ := S_choose (θ := θ) T3 hp
        have Z3 : pn_Z P (sx_u σ2 28 e p a (nI r)) e (fun x => x = p) := by
          intro p' p0 pP pX pon pr
          have c16 : ∀ k n p', k < 16 → sx_u σ2 28 e p a (nI r) k n p' = σ2 k n p' := fun k n p' hk => f3.1 k n p' (by omega)
          have r27 : ∀ p', sx_u σ2 28 e p a (nI r) 27 e p' = σ2 27 e p' := fun p' => sx_u_row _ _ _ _ _ _ (by omega)
          rw [r27] at pon pr
          refine pn_zz_c (fun k => ?_) (fun j _ _ => by rw [r27]) (fun j => by rw [c16 14 0 0 (by decide)]) (Z2 p' p0 pP pX pon pr)
          have pX' : ¬ p' = p := pX
          unfold pn_of pn_nb pn_st
          rw [sx_u_row _ 28 e p a (nI r) (k' := 28) (n' := e) (p' := p') (by omega), sx_u_row _ 28 e p a (nI r) (k' := 18) (n' := e) (p' := 0) (by omega), sx_u_row _ 28 e p a (nI r) (k' := 19) (n' := e) (p' := 0) (by omega), r27, r27, c16 13 0 p' (by decide), c16 8 0 0 (by decide)]
        have Z4 : pn_Z P σ4 e (fun x => x = p) := Z3.mv f4 q4 (Or.inl rfl)
        refine ⟨m4, σ4, ρ4, T4, f3.tr f4, (pn_g.rf.u rfl).tr g4, fun p' p0 pP _ pon pr => ?_, fun Q hQ => ?_, fun Q hQ => ?_⟩
        · by_cases e5 : p' = p
          · subst e5; exact z4 p0 pon pr
          · exact Z4 p' p0 pP e5 pon pr
        · unfold wp_En_hearAdvert_b85
          rw [ca]
          exact ⟨ia, fun _ q => by subst q; exact wC Q hQ⟩
        · unfold wp_Mo_hears_b118
          rw [e1, nI_clamp (n := 96 + 7 * p + a) (by omega)]
          exact ⟨vp_in_nI (by omega) (by decide), fun _ q => by subst q; exact wR Q hQ⟩
      have eh := (T1.rt hp ha).1
      by_cases c3 : nI r = σ1 28 e p a
      · have T2 := T1.setP (w0 := 8) (x := σ1 27 e p 9 + 1) hp (by decide) (no (by decide)) (no (by decide)) (no (by decide)) (no (by decide)) (no (by decide))
        have k2 : pn_k e p σ1 (sx_u σ1 27 e p 9 (σ1 27 e p 9 + 1)) := pn_k.rf.u (by decide)
        have f2 : pn_f e σ1 (sx_u σ1 27 e p 9 (σ1 27 e p 9 + 1)) := pn_f.rf.u ⟨by omega, rfl⟩
        obtain ⟨m3, σ3, ρ3, T3, f3, g3, Z3, wC, wR⟩ := tail2 m1 _ _ T2 (Z1.mv0 f2 (fun q p' h => k2.j.1 q p' (by omega)) k2.j.2)
        refine ⟨m3, σ3, ρ3, T3, f2.tr f3, (pn_g.rf.u rfl).tr g3, Z3, fun Q hQ => ?_, fun Q hQ => ?_⟩
        · unfold wp_En_hearAdvert_b54
          rw [ca, if_pos c3]
          exact ⟨ia, fun _ q => by subst q; exact wC Q hQ⟩
        · unfold wp_Mo_hears_b80
          rw [e1, nI_clamp (n := 96 + 7 * p + a) (by omega), eh, if_pos c3.symm]
          refine ⟨vp_in_nI (by omega) (by decide), ?_⟩
          refine R_of (i := 8) rfl rfl (by omega) (by decide) ?_
          rw [T1.fld hp (w := 8) (by decide)]
          refine R_keeps (i := 8) rfl rfl (by omega) (by decide) ?_
          exact wR Q hQ
      · obtain ⟨σ2, ρ2, T2, f2, g2, k2, wC2, wR2⟩ := S_beginAnew (θ := θ) T1 hp
        obtain ⟨m3, σ3, ρ3, T3, f3, g3, Z3, wC, wR⟩ := tail2 m1 _ _ T2 (Z1.mv0 f2 (fun q p' h => k2.j.1 q p' (by omega)) k2.j.2)
        refine ⟨m3, σ3, ρ3, T3, f2.tr f3, g2.tr g3, Z3, fun Q hQ => ?_, fun Q hQ => ?_⟩
        · unfold wp_En_hearAdvert_b54
          rw [ca, if_neg c3]
          exact ⟨ia, wC2 _ (wC Q hQ)⟩
        · unfold wp_Mo_hears_b80
          rw [e1, nI_clamp (n := 96 + 7 * p + a) (by omega), eh, if_neg (fun z => c3 z.symm)]
          refine ⟨vp_in_nI (by omega) (by decide), wR2 _ ?_⟩
          exact wR Q hQ
    have Zp : pn_Z P σ e (fun x => x = p) := fun p' p0 pP _ pon pr => hZ p' p0 pP (fun z => z) pon pr
    by_cases c2 : nI u ≤ σ 27 e p 1
    · obtain ⟨m2, σ2, ρ2, T2, f2, g2, Z2, wC, wR⟩ := tail m σ ρ hT Zp
      refine ⟨m2, σ2, ρ2, T2, f2, g2, Z2, fun Q hQ => ?_, fun Q hQ => ?_⟩
      · unfold wp_En_hearAdvert
        rw [cp, if_pos c1, if_pos c2]
        exact ⟨ip, wC Q hQ⟩
      · unfold wp_Mo_hears
        refine R_of (i := 0) rfl rfl (by omega) (by decide) ?_
        rw [e0, if_pos c1]
        refine R_of (i := 0) rfl rfl (by omega) (by decide) ?_
        rw [e0, if_pos c2]
        exact wR Q hQ
    · have T1 := hT.setP (w0 := 0) (x := nI u) hp (by decide) (fun _ => ⟨u, hu, rfl⟩) (no (by decide)) (no (by decide)) (no (by decide)) (no (by decide))
      have T2 := T1.setP (w0 := 3) (x := 9999) hp (by decide) (no (by decide)) (no (by decide)) (no (by decide)) (fun _ => ⟨9999, by decide, rfl⟩) (no (by decide))
      generalize es : sx_u (sx_u σ 27 e p (0 + 1) (nI u)) 27 e p (3 + 1) 9999 = σ1 at T2
      have f1 : pn_f e σ σ1 := by rw [← es]; exact (pn_f.rf.u ⟨by omega, rfl⟩).u ⟨by omega, rfl⟩
      obtain ⟨T3, f3, g3, k3⟩ := fg_T hp T2 7 (Nat.le_refl _)
      have Z3 : pn_Z P (fgC e p σ1 7) e (fun x => x = p) := by
        intro p' p0 pP pX pon pr
        have pX' : ¬ p' = p := pX
        have c16 : ∀ k n p', k < 16 → fgC e p σ1 7 k n p' = σ k n p' := fun k n p' hk => (f1.tr f3).1 k n p' (by omega)
        have r27 : ∀ x j, (j = 0 ∨ ¬ x = p) → fgC e p σ1 7 27 e x j = σ 27 e x j := fun x j hj => by
          rw [k3 27 x (by omega), ← es, sx_u_at, if_neg (by omega), sx_u_at, if_neg (by omega)]
        have r18 : ∀ q, q = 18 ∨ q = 19 → fgC e p σ1 7 q e 0 = σ q e 0 := fun q hq => by
          rw [k3 q 0 (by omega), ← es, sx_u_row _ _ _ _ _ _ (by omega), sx_u_row _ _ _ _ _ _ (by omega)]
        rw [r27 p' 0 (Or.inl rfl)] at pon
        rw [r27 p' 5 (Or.inr pX')] at pr
        refine pn_zz_c (fun k => ?_) (fun j _ _ => r27 p' j (Or.inr pX')) (fun j => by rw [c16 14 0 0 (by decide)]) (hZ p' p0 pP (fun z => z) pon pr)
        unfold pn_of pn_nb pn_st
        rw [k3 28 p' (by omega), r18 18 (Or.inl rfl), r18 19 (Or.inr rfl), r27 p' 0 (Or.inl rfl), r27 k 0 (Or.inl rfl), c16 13 0 p' (by decide), c16 8 0 0 (by decide)]
        rw [← es, sx_u_row _ _ _ _ _ _ (by omega), sx_u_row _ _ _ _ _ _ (by omega)]
      obtain ⟨m4, σ4, ρ4, T4, f4, g4, Z4, wC, wR⟩ := tail m _ _ T3 Z3
      refine ⟨m4, σ4, ρ4, T4, (f1.tr f3).tr f4, (((pn_g.rf.u rfl).u rfl).tr g3).tr g4, Z4, fun Q hQ => ?_, fun Q hQ => ?_⟩
      · unfold wp_En_hearAdvert
        rw [cp, if_pos c1, if_neg c2]
        refine ⟨ip, fun _ q => ?_⟩; subst q
        intro _ q
        have q2 : _ = σ1 := q.trans es
        subst q2
        unfold wp_Po_forgetHeard
        exact C_forget (wC Q hQ) 7 0 rfl
      · unfold wp_Mo_hears
        refine R_of (i := 0) rfl rfl (by omega) (by decide) ?_
        rw [e0, if_pos c1]
        refine R_of (i := 0) rfl rfl (by omega) (by decide) ?_
        rw [e0, if_neg c2]
        refine R_keeps (i := 0) rfl rfl (by omega) (by decide) ?_
        refine R_forget (ρ := sx_u ρ 68 0 0 (26 + 10 * p + 0) (nI u)) (by omega) ?_ 7 0 rfl
        have := wR Q hQ
        rw [fgR_u p _ _ (by omega)] at this
        exact this
  · -- a lesser version
    obtain ⟨σ2, ρ2, T2, f2, g2, k2, wC2, wR2⟩ := S_beginAnew (θ := θ) hT hp
    have Z2 : pn_Z P σ2 e (fun _ => False) := hZ.mv0 f2 (fun q p' h => k2.j.1 q p' (by omega)) k2.j.2
    refine ⟨m, σ2, ρ2, T2, f2, g2, Z2, fun Q hQ => ?_, fun Q hQ => ?_⟩
    · unfold wp_En_hearAdvert
      rw [cp, if_neg c1]
      exact ⟨ip, wC2 _ (C_noop T2 hp (fun h0 h1 h2 => Z2 p h0 hp (fun z => z) h1 h2) hQ)⟩
    · unfold wp_Mo_hears
      refine R_of (i := 0) rfl rfl (by omega) (by decide) ?_
      rw [e0, if_neg c1]
      exact wR2 _ hQ
end HEAR
