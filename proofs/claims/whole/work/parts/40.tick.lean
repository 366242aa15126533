section TICK
variable {P L v m e : Nat} {σ σ2 ρ : sx_M} {θ : sx_L}
/-- all have chosen -/
abbrev pn_A (P : Nat) (σ : sx_M) (e : Nat) : Prop := pn_Z P σ e (fun _ => False)
theorem pn_A.j (hZ : pn_A P σ e) (hf : pn_f e σ σ2) (hj : pn_j e σ σ2) : pn_A P σ2 e := hZ.mv0 hf (fun q p' h => hj.1 q p' (by omega)) hj.2
theorem S_advLoop {a u r i : Nat} (ha : a < P) (hu : u ≤ 99) (hr : r ≤ 20000) (hi : i < 200) {w : Int32} (hw : w >>> (16 &&& 31) = nI u) (v1 : Int32) : ∀ (c d m : Nat) (σ ρ : sx_M), d + c = P → pn_T P L v m e σ ρ → pn_A P σ e → σ 24 (25 + e) 0 i = nI u → σ 25 (25 + e) 0 i = nI r →
    ∃ m2 σ2 ρ2, pn_T P L v m2 e σ2 ρ2 ∧ pn_f e σ σ2 ∧ pn_g ρ ρ2 ∧ pn_A P σ2 e ∧ (∀ Q : sx_M → Prop, Q σ2 → ∃ f, wp_En_advertComes_b12 e Q f (nI i) (nI a) (nI d) σ) ∧ (∀ (k : Int32 → Int32 → sx_M → sx_L → Prop) (Q : sx_M → sx_L → Prop), k v1 (nI i + 1) ρ2 θ → ∃ f, wp_Mo_allCome_b92 k Q f v1 (nI i) w (nI r) (nI a) (nI d) ρ θ)
  | 0, d, m, σ, ρ, hd, hT, hZ, hA, hB => by
    have h7 := hT.p7
    refine ⟨m, σ, ρ, hT, pn_f.rf, pn_g.rf, hZ, fun Q hQ => ⟨1, ?_⟩, fun k Q hQ => ⟨1, ?_⟩⟩
    · rw [wp_En_advertComes_b12, hT.2.1.2.1.1, if_pos (nI_le (by omega) (by omega))]; exact hQ
    · rw [wp_Mo_allCome_b92, hT.2.1.rP, if_pos (nI_le (by omega) (by omega))]; exact ⟨hT.2.1.live.1, hQ⟩
  | c + 1, d, m, σ, ρ, hd, hT, hZ, hA, hB => by
    have h7 := hT.p7
    have hdP : d < P := by omega
    have he := hT.1
    have ii : vp_in (nI i) 200 := vp_in_nI hi (by decide)
    have ci : (nI i).toNatClampNeg = i := nI_clamp (by omega)
    -- the step
    have step : ∃ m1 σ1 ρ1, pn_T P L v m1 e σ1 ρ1 ∧ pn_f e σ σ1 ∧ pn_g ρ ρ1 ∧ pn_A P σ1 e ∧ (∀ (F : Int32 → Int32 → Int32 → sx_M → Prop) (Q : sx_M → Prop), F (nI i) (nI a) (nI d + 1) σ1 → wp_Ne_areNeighbours e (nI a) (nI d) σ (fun r2 σ2 => if r2 = 0 then wp_En_advertComes_b89 e F Q (nI i) (nI a) (nI d) σ2 else wp_En_isDrowned e (nI a) (nI d) σ2 (fun r4 σ4 => if r4 = 0 then vp_in (nI i) 200 ∧ (vp_in (nI i) 200 ∧ wp_En_hearAdvert e (nI a) (nI d) (σ4 24 (25 + e) 0 (nI i).toNatClampNeg) (σ4 25 (25 + e) 0 (nI i).toNatClampNeg) σ4 (fun σ8 => wp_En_choose e (nI d) σ8 (fun σ9 => wp_En_advertComes_b89 e F Q (nI i) (nI a) (nI d) σ9))) else ∀ σ10 : sx_M, σ10 = sx_u σ4 16 e 0 6 ((σ4 16 e 0 6) + 1) → wp_En_advertComes_b89 e F Q (nI i) (nI a) (nI d) σ10))) ∧ (∀ (k : Int32 → Int32 → sx_M → sx_L → Prop) (F : Int32 → Int32 → Int32 → Int32 → Int32 → Int32 → sx_M → sx_L → Prop) (Q : sx_M → sx_L → Prop), F v1 (nI i) w (nI r) (nI a) (nI d + 1) ρ1 θ → wp_Mo_areNear (nI a) (nI d) ρ θ (fun r3 σ3 τ3 => if r3 = 0 then wp_Mo_allCome_b142 k F Q v1 (nI i) w (nI r) (nI a) (nI d) σ3 τ3 else wp_Mo_isLost (nI a) (nI d) σ3 τ3 (fun r5 σ5 τ5 => if r5 = 0 then wp_Mo_hears (nI d) (nI a) (w >>> (16 &&& 31)) (nI r) σ5 τ5 (fun σ7 τ7 => wp_Mo_allCome_b142 k F Q v1 (nI i) w (nI r) (nI a) (nI d) σ7 τ7) else wp_Mo_allCome_b142 k F Q v1 (nI i) w (nI r) (nI a) (nI d) σ5 τ5))) := by
      by_cases c1 : pn_nb σ e a d = 0
      · refine ⟨m, σ, ρ, hT, pn_f.rf, pn_g.rf, hZ, fun F Q hQ => ?_, fun k F Q hQ => ?_⟩
        · refine C_near hT.2.1 rfl rfl ha hdP ?_
          rw [if_pos c1]; unfold wp_En_advertComes_b89; exact hQ
        · refine R_near hT.2.1 hT.2.2.1 rfl rfl ha hdP ?_
          rw [if_pos c1]; unfold wp_Mo_allCome_b142; exact hQ
      · by_cases c2 : pn_dr σ e a d = 0
        · obtain ⟨m2, σ2, ρ2, T2, f2, g2, Z2, wC, wR⟩ := S_hear (θ := θ) hT hZ hdP ha hu hr
          refine ⟨m2, σ2, ρ2, T2, f2, g2, Z2, fun F Q hQ => ?_, fun k F Q hQ => ?_⟩
          · refine C_near hT.2.1 rfl rfl ha hdP ?_
            rw [if_neg c1]
            refine C_drown ?_
            rw [if_pos c2, ci, hA, hB]
            refine ⟨ii, ii, wC _ ?_⟩
            unfold wp_En_advertComes_b89; exact hQ
          · refine R_near hT.2.1 hT.2.2.1 rfl rfl ha hdP ?_
            rw [if_neg c1]
            refine R_lost hT ha hdP (fun _ _ => ?_) (fun z => absurd z (fun y => y.elim c1 (fun x => x c2)))
            rw [if_pos rfl, hw]
            refine wR _ ?_
            unfold wp_Mo_allCome_b142; exact hQ
        · obtain ⟨T2, f2, g2, Z2⟩ := hT.lost hZ
          refine ⟨m, _, _, T2, f2, g2, Z2, fun F Q hQ => ?_, fun k F Q hQ => ?_⟩
          · refine C_near hT.2.1 rfl rfl ha hdP ?_
            rw [if_neg c1]
            refine C_drown ?_
            rw [if_neg c2]
            intro _ q; subst q
            unfold wp_En_advertComes_b89; exact hQ
          · refine R_near hT.2.1 hT.2.2.1 rfl rfl ha hdP ?_
            rw [if_neg c1]
            refine R_lost hT ha hdP (fun _ z => absurd z c2) (fun _ => ?_)
            rw [if_neg (by decide)]
            unfold wp_Mo_allCome_b142; exact hQ
    obtain ⟨m1, σ1, ρ1, T1, f1, g1, Z1, wC1, wR1⟩ := step
    obtain ⟨m2, σ2, ρ2, T2, f2, g2, Z2, wC, wR⟩ := S_advLoop ha hu hr hi hw v1 c (d + 1) m1 σ1 ρ1 (by omega) T1 Z1 (by rw [f1.1 24 (25 + e) 0 (by omega)]; exact hA) (by rw [f1.1 25 (25 + e) 0 (by omega)]; exact hB)
    refine ⟨m2, σ2, ρ2, T2, f1.tr f2, g1.tr g2, Z2, fun Q hQ => ?_, fun k Q hQ => ?_⟩
    · obtain ⟨f, hf⟩ := wC Q hQ
      refine ⟨f + 1, ?_⟩
      rw [wp_En_advertComes_b12, hT.2.1.2.1.1, if_neg (nI_ge hdP (by omega))]
      exact wC1 (wp_En_advertComes_b12 e Q f) Q (by rw [nI_1]; exact hf)
    · obtain ⟨f, hf⟩ := wR k Q hQ
      refine ⟨f + 1, ?_⟩
      rw [wp_Mo_allCome_b92, hT.2.1.rP, if_neg (nI_ge hdP (by omega))]
      exact ⟨hT.2.1.live.1, wR1 k (wp_Mo_allCome_b92 k Q f) Q (by rw [nI_1]; exact hf)⟩
/-- the messages that come, on both sides -/
def pn_M (P M c : Nat) (σ ρ : sx_M) : Prop := M ≤ 200 ∧ σ 20 c 0 0 = nI M ∧ ∀ i, i < M → pn_m P (σ 21 c 0 i) (σ 22 c 0 i) (σ 23 c 0 i) (σ 24 c 0 i) (σ 25 c 0 i) (σ 26 c 0 i) (ρ 69 0 0 (2 * i)) (ρ 69 0 0 (2 * i + 1))
theorem pn_M.mv {M : Nat} {ρ2 : sx_M} (h : pn_M P M (25 + e) σ ρ) (hf : pn_f e σ σ2) (hg : pn_g ρ ρ2) : pn_M P M (25 + e) σ2 ρ2 := by
  unfold pn_M
  rw [hf.1 20 (25 + e) 0 (by omega), hf.1 21 (25 + e) 0 (by omega), hf.1 22 (25 + e) 0 (by omega), hf.1 23 (25 + e) 0 (by omega), hf.1 24 (25 + e) 0 (by omega), hf.1 25 (25 + e) 0 (by omega), hf.1 26 (25 + e) 0 (by omega), hg 69 0 0 (by decide)]
  exact h
theorem S_msgLoop {M : Nat} : ∀ (c i m : Nat) (σ ρ : sx_M), i + c = M → pn_T P L v m e σ ρ → pn_A P σ e → pn_M P M (25 + e) σ ρ →
    ∃ m2 σ2 ρ2, pn_T P L v m2 e σ2 ρ2 ∧ pn_f e σ σ2 ∧ pn_g ρ ρ2 ∧ pn_A P σ2 e ∧ (∀ Q : sx_M → Prop, (∃ f71, wp_En_passTick_b71 e Q f71 0 σ2) → ∃ f, wp_En_passTick_b27 e Q f (nI i) σ) ∧ (∀ Q : sx_M → sx_L → Prop, Q ρ2 θ → ∃ f, wp_Mo_allCome_b49 Q f (nI M) (nI i) ρ θ)
  | 0, i, m, σ, ρ, hi, hT, hZ, hM => by
    have hM2 := hM.1
    refine ⟨m, σ, ρ, hT, pn_f.rf, pn_g.rf, hZ, fun Q hQ => ⟨1, ?_⟩, fun Q hQ => ⟨1, ?_⟩⟩
    · rw [wp_En_passTick_b27, hM.2.1, if_pos (nI_le (by omega) (by omega))]; exact hQ
    · rw [wp_Mo_allCome_b49, if_pos (nI_le (by omega) (by omega))]; exact hQ
  | c + 1, i, m, σ, ρ, hi, hT, hZ, hM => by
    have hM2 := hM.1
    have h7 := hT.p7
    have iM : i < M := by omega
    have ii : vp_in (nI i) 200 := vp_in_nI (by omega) (by decide)
    have ci : (nI i).toNatClampNeg = i := nI_clamp (by omega)
    have e2 : (2 : Int32) * nI i = nI (2 * i) := pk_mul 2 i
    have e3 : (2 : Int32) * nI i + 1 = nI (2 * i + 1) := by rw [e2]; exact nI_1 _
    have i2 : vp_in (2 * nI i) 400 := in_I e2 (by omega) (by decide)
    have i3 : vp_in (2 * nI i + 1) 400 := in_I e3 (by omega) (by decide)
    have c2 := cl_I e2 (by omega)
    have c3 := cl_I e3 (by omega)
    obtain ⟨hv, a, ha, m2, hk⟩ := hM.2.2 i iM
    rcases hk with ⟨m1, u, hu, m4, mw, r, hr, er⟩ | ⟨s, t, d, j, s1, s2, ht, hd, hj, m1, m3, m4, m6, mw⟩
    · -- an advert
      obtain ⟨d1, d2, d3⟩ := w0_dec a (by omega) u (by omega)
      obtain ⟨m5, σ1, ρ1, T1, f1, g1, Z1, wC1, wR1⟩ := S_advLoop (θ := θ) (P := P) (e := e) (w := nI (4 * a + 65536 * u)) ha hu hr (by omega : i < 200) d3 (nI M) P 0 m σ ρ (by omega) hT hZ m4 er
      obtain ⟨m6, σ2, ρ2, T2, f2, g2, Z2, wC, wR⟩ := S_msgLoop c (i + 1) m5 σ1 ρ1 (by omega) T1 Z1 (hM.mv f1 g1)
      refine ⟨m6, σ2, ρ2, T2, f1.tr f2, g1.tr g2, Z2, fun Q hQ => ?_, fun Q hQ => ?_⟩
      · obtain ⟨f, hf⟩ := wC Q hQ
        refine ⟨f + 1, ?_⟩
        rw [wp_En_passTick_b27, hM.2.1, if_neg (nI_ge iM (by omega)), ci, if_pos m1]
        refine ⟨ii, ?_⟩
        unfold wp_En_advertComes
        rw [ci, m2]
        refine ⟨ii, wC1 _ ?_⟩
        unfold wp_En_passTick_b63
        rw [nI_1]; exact hf
      · obtain ⟨f, hf⟩ := wR Q hQ
        refine ⟨f + 1, ?_⟩
        rw [wp_Mo_allCome_b49, if_neg (nI_ge iM (by omega)), c2, c3, mw, hv, er, if_pos d1, d2]
        exact ⟨i2, i3, wR1 _ Q (by rw [nI_1]; exact hf)⟩
    · -- a word
      have hsn : ¬ nI s = 0 := nI_ne0 (by omega) (by omega)
      obtain ⟨m5, σ1, ρ1, T1, f1, g1, Z1, wC1, wR1⟩ := S_comes (θ := θ) hT hZ s1 s2 ha ht hd hj (by omega : i < 200) m1 m2 m3 m4 rfl m6
      obtain ⟨m6, σ2, ρ2, T2, f2, g2, Z2, wC, wR⟩ := S_msgLoop c (i + 1) m5 σ1 ρ1 (by omega) T1 Z1 (hM.mv f1 g1)
      refine ⟨m6, σ2, ρ2, T2, f1.tr f2, g1.tr g2, Z2, fun Q hQ => ?_, fun Q hQ => ?_⟩
      · obtain ⟨f, hf⟩ := wC Q hQ
        refine ⟨f + 1, ?_⟩
        rw [wp_En_passTick_b27, hM.2.1, if_neg (nI_ge iM (by omega)), ci, m1, if_neg hsn]
        refine ⟨ii, wC1 _ ?_⟩
        unfold wp_En_passTick_b63
        rw [nI_1]; exact hf
      · obtain ⟨f, hf⟩ := wR Q hQ
        refine ⟨f + 1, ?_⟩
        rw [wp_Mo_allCome_b49, if_neg (nI_ge iM (by omega)), c2, c3, mw, hv, w1_d0 s (by omega) a (by omega) t (by omega) d (by omega) j (by omega), if_neg hsn, w1_d1 s (by omega) a (by omega) t (by omega) d (by omega) j (by omega), w1_d2 s (by omega) a (by omega) t (by omega) d (by omega) j (by omega), w1_d3 s (by omega) a (by omega) t (by omega) d (by omega) j (by omega), w1_d4 s (by omega) a (by omega) t (by omega) d (by omega) j (by omega)]
        refine ⟨i2, i3, ?_⟩
        have := wR1 (fun ρ9 θ9 => wp_Mo_allCome_b197 (wp_Mo_allCome_b49 Q f) Q (nI M) (nI i) ρ9 θ9) (by unfold wp_Mo_allCome_b197; rw [nI_1]; exact hf)
        exact this
theorem sh_dec : ∀ h, h < 5 → ∀ t, t < 5 → nI (2 * h) <<< (nI t &&& 31) = nI (2 * h * 2 ^ t) ∧ 2 * h * 2 ^ t ≤ 128 := by decide +kernel
/-- a timer goes on -/
theorem S_far (hT : pn_T P L v m e σ ρ) (hZ : pn_A P σ e) {p : Nat} (hp : p < P) :
    ∃ m2 σ2 ρ2, pn_T P L v m2 e σ2 ρ2 ∧ pn_f e σ σ2 ∧ pn_g ρ ρ2 ∧ pn_A P σ2 e ∧ (∀ Q : sx_M → Prop, Q σ2 → wp_En_goOn_b32 e Q (nI p) e p σ) ∧ (∀ Q : sx_M → sx_L → Prop, Q ρ2 θ → wp_Mo_fires_b30 Q (nI p) ρ θ) := by
  have h7 := hT.p7
  have no : ∀ {A : Prop} {i j : Nat}, i ≠ j → i = j → A := fun h1 h2 => absurd h2 h1
  have T1 := hT.setP (w0 := 7) (x := σ 27 e p 8 + 1) hp (by decide) (no (by decide)) (no (by decide)) (no (by decide)) (no (by decide)) (no (by decide))
  generalize es : sx_u σ 27 e p (7 + 1) (σ 27 e p 8 + 1) = σ1 at T1
  generalize er : sx_u ρ 68 0 0 (26 + 10 * p + 7) (σ 27 e p 8 + 1) = ρ1 at T1
  have f1 : pn_f e σ σ1 := by rw [← es]; exact pn_f.rf.u ⟨by omega, rfl⟩
  have g1 : pn_g ρ ρ1 := by rw [← er]; exact pn_g.rf.u rfl
  have k1 : pn_k e p σ σ1 := by rw [← es]; exact pn_k.rf.u (by decide)
  have Z1 : pn_A P σ1 e := hZ.j f1 k1.j
  have e8 : σ1 27 e p 8 = σ 27 e p 8 + 1 := by rw [← es, sx_u_at]; simp
  -- the end of the interval
  have tail : ∀ (m3 : Nat) (σ3 ρ3 : sx_M), pn_T P L v m3 e σ3 ρ3 → pn_A P σ3 e → σ3 27 e p 8 = σ 27 e p 8 + 1 →
      ∃ m2 σ2 ρ2, pn_T P L v m2 e σ2 ρ2 ∧ pn_f e σ3 σ2 ∧ pn_g ρ3 ρ2 ∧ pn_A P σ2 e ∧ (∀ Q : sx_M → Prop, Q σ2 → wp_En_goOn_b102 e Q (nI p) e p σ3) ∧ (∀ Q : sx_M → sx_L → Prop, Q ρ2 θ → wp_Mo_fires_b109 Q (nI p) (σ 27 e p 8 + 1) ρ3 θ) := by
    intro m3 σ3 ρ3 T3 Z3 e83
    obtain ⟨q, q1, q2, q3⟩ := (T3.2.2.1.2.2.2.2.2.2.2.2.2.2.1 p hp).2.2.2.2
    obtain ⟨hh, y1, y2, y3⟩ := T3.2.1.2.2.2.2.1.1
    obtain ⟨tw, t1, t2⟩ := T3.2.1.2.2.2.2.1.2.1
    have e6 : ρ3 68 0 0 (26 + 10 * p + 6) = σ3 27 e p 7 := T3.fld hp (w := 6) (by decide)
    obtain ⟨s1, s2⟩ := sh_dec hh (by omega) tw (by omega)
    by_cases c1 : σ3 27 e p 8 = σ3 27 e p 7
    · obtain ⟨x, hx1, hx2, hxd⟩ : ∃ x, 2 ≤ x ∧ x ≤ 300 ∧ (if nI (2 * hh * 2 ^ tw) ≤ nI q then nI q else 2 * nI q) = nI x := by
        by_cases c2 : nI (2 * hh * 2 ^ tw) ≤ nI q
        · rw [if_pos c2]; exact ⟨q, q1, q2, rfl⟩
        · rw [if_neg c2]
          have : q < 2 * hh * 2 ^ tw := Nat.lt_of_not_le fun z => c2 (nI_le z (by omega))
          exact ⟨2 * q, by omega, by omega, pk_mul 2 q⟩
      obtain ⟨σ4, ρ4, T4, f4, g4, k4, wC, wR⟩ := S_setTimer (θ := θ) T3 hp hx1 hx2 rfl
      refine ⟨m3, σ4, ρ4, T4, f4, g4, Z3.j f4 k4.j, fun Q hQ => ?_, fun Q hQ => ?_⟩
      · unfold wp_En_goOn_b102 wp_En_goOn_b156 wp_En_goOn_b159
        rw [if_pos c1]
        refine ⟨in_I (n := 0) rfl (by decide) (by decide), in_I (n := 1) rfl (by decide) (by decide), ?_⟩
        show if (σ3 14 0 0 0) <<< ((σ3 14 0 0 1) &&& 31) ≤ σ3 27 e p 7 then _ else _
        rw [y3, t2, s1, q3]
        by_cases c2 : nI (2 * hh * 2 ^ tw) ≤ nI q
        · rw [if_pos c2] at hxd ⊢; rw [hxd]; exact wC Q hQ
        · rw [if_neg c2] at hxd ⊢; rw [hxd]; exact wC Q hQ
      · unfold wp_Mo_fires_b109 wp_Mo_fires_b151 wp_Mo_fires_b154
        refine R_of (i := 6) rfl rfl (by omega) (by decide) ?_
        rw [e6, ← e83, if_pos c1]
        refine R_setting T3.2.1 (i := 0) rfl (by decide) ?_
        refine R_setting T3.2.1 (i := 1) rfl (by decide) ?_
        rw [y3, t2, s1, q3]
        by_cases c2 : nI (2 * hh * 2 ^ tw) ≤ nI q
        · rw [if_pos c2] at hxd ⊢; rw [hxd]; exact wR Q hQ
        · rw [if_neg c2] at hxd ⊢; rw [hxd]; exact wR Q hQ
    · refine ⟨m3, σ3, ρ3, T3, pn_f.rf, pn_g.rf, Z3, fun Q hQ => ?_, fun Q hQ => ?_⟩
      · unfold wp_En_goOn_b102 wp_En_goOn_b159
        rw [if_neg c1]; exact hQ
      · unfold wp_Mo_fires_b109 wp_Mo_fires_b154
        refine R_of (i := 6) rfl rfl (by omega) (by decide) ?_
        rw [e6, ← e83, if_neg c1]; exact hQ
  have r7 : ρ 68 0 0 (26 + 10 * p + 7) = σ 27 e p 8 := hT.fld hp (w := 7) (by decide)
  have r9 : ρ1 68 0 0 (26 + 10 * p + 9) = σ1 27 e p 10 := T1.fld hp (w := 9) (by decide)
  have r8 : ρ1 68 0 0 (26 + 10 * p + 8) = σ1 27 e p 9 := T1.fld hp (w := 8) (by decide)
  by_cases c1 : σ1 27 e p 8 = σ1 27 e p 10
  · by_cases c2 : σ1 14 0 0 2 ≤ σ1 27 e p 9
    · -- spared
      have T2 := T1.cnt (f := 6) (by decide)
      have f2 : pn_f e σ1 (sx_u σ1 16 e 0 7 (σ1 16 e 0 7 + 1)) := pn_f.rf.u ⟨by omega, rfl⟩
      have j2 : pn_j e σ1 (sx_u σ1 16 e 0 7 (σ1 16 e 0 7 + 1)) := ⟨fun q p' h => sx_u_row _ _ _ _ _ _ (by omega), fun p' j _ => by rw [sx_u_row _ _ _ _ _ _ (by omega)]⟩
      obtain ⟨m4, σ4, ρ4, T4, f4, g4, Z4, wC, wR⟩ := tail m _ _ T2 (Z1.j f2 j2) (by rw [sx_u_row _ _ _ _ _ _ (by omega)]; exact e8)
      refine ⟨m4, σ4, ρ4, T4, (f1.tr f2).tr f4, (g1.tr (pn_g.rf.u rfl)).tr g4, Z4, fun Q hQ => ?_, fun Q hQ => ?_⟩
      · unfold wp_En_goOn_b32
        intro _ q
        have q2 : _ = σ1 := q.trans es
        subst q2
        rw [if_pos c1]
        refine ⟨in_I (n := 2) rfl (by decide) (by decide), ?_⟩
        rw [show (2 : Int32).toNatClampNeg = 2 from rfl]
        rw [if_pos c2]
        intro _ q; subst q; exact wC Q hQ
      · unfold wp_Mo_fires_b30
        refine R_of (i := 7) rfl rfl (by omega) (by decide) ?_
        rw [r7]
        refine R_keeps (i := 7) rfl rfl (by omega) (by decide) ?_
        rw [er]
        refine R_of (i := 9) rfl rfl (by omega) (by decide) ?_
        rw [r9, if_pos (e8.symm.trans c1)]
        refine R_of (i := 8) rfl rfl (by omega) (by decide) ?_
        refine R_setting T1.2.1 (i := 2) rfl (by decide) ?_
        rw [r8, if_pos c2]
        exact ⟨in_I (n := 6) rfl (by decide) (by decide), in_I (n := 6) rfl (by decide) (by decide), fun _ q => by subst q; exact wR Q hQ⟩
    · -- an advert is put
      obtain ⟨⟨u, hu, eu⟩, hr, -, -⟩ := T1.2.2.1.2.2.2.2.2.2.2.2.2.2.1 p hp
      have r0 : ρ1 68 0 0 (26 + 10 * p + 0) = σ1 27 e p 1 := T1.fld hp (w := 0) (by decide)
      have r1 : ρ1 68 0 0 (26 + 10 * p + 1) = σ1 27 e p 2 := T1.fld hp (w := 1) (by decide)
      obtain ⟨m3, σ3, ρ3, T3, f3, g3, l3, l3t, wC3, wR3⟩ := S_put (θ := θ) T1 (so := 0) (fr := nI p) (to := -2) (ab := σ1 27 e p 1) (va := σ1 27 e p 2) (li := 0) (fr2 := nI p) (to2 := 0) (ab2 := 0) (ov := 0) (ve := σ1 27 e p 1) ⟨rfl, p, hp, rfl, Or.inl ⟨rfl, u, hu, eu, by rw [eu]; exact pn_w0 p (by omega) u (by omega), hr⟩⟩
      have hl3 : pn_l e σ1 σ3 := ⟨l3, l3t⟩
      obtain ⟨m4, σ4, ρ4, T4, f4, g4, Z4, wC, wR⟩ := tail m3 _ _ T3 (Z1.j f3 hl3.j) (by rw [l3 27 p (by decide)]; exact e8)
      refine ⟨m4, σ4, ρ4, T4, (f1.tr f3).tr f4, (g1.tr g3).tr g4, Z4, fun Q hQ => ?_, fun Q hQ => ?_⟩
      · unfold wp_En_goOn_b32
        intro _ q
        have q2 : _ = σ1 := q.trans es
        subst q2
        rw [if_pos c1]
        refine ⟨in_I (n := 2) rfl (by decide) (by decide), ?_⟩
        rw [show (2 : Int32).toNatClampNeg = 2 from rfl]
        rw [if_neg c2]
        exact wC3 _ (wC Q hQ)
      · unfold wp_Mo_fires_b30
        refine R_of (i := 7) rfl rfl (by omega) (by decide) ?_
        rw [r7]
        refine R_keeps (i := 7) rfl rfl (by omega) (by decide) ?_
        rw [er]
        refine R_of (i := 9) rfl rfl (by omega) (by decide) ?_
        rw [r9, if_pos (e8.symm.trans c1)]
        refine R_of (i := 8) rfl rfl (by omega) (by decide) ?_
        refine R_setting T1.2.1 (i := 2) rfl (by decide) ?_
        rw [r8, if_neg c2]
        refine R_of (i := 0) rfl rfl (by omega) (by decide) ?_
        refine R_of (i := 1) rfl rfl (by omega) (by decide) ?_
        rw [r0, r1]
        exact wR3 _ (wR Q hQ)
  · obtain ⟨m4, σ4, ρ4, T4, f4, g4, Z4, wC, wR⟩ := tail m _ _ T1 Z1 e8
    refine ⟨m4, σ4, ρ4, T4, f1.tr f4, g1.tr g4, Z4, fun Q hQ => ?_, fun Q hQ => ?_⟩
    · unfold wp_En_goOn_b32
      intro _ q
      have q2 : _ = σ1 := q.trans es
      subst q2
      rw [if_neg c1]
      exact wC Q hQ
    · unfold wp_Mo_fires_b30
      refine R_of (i := 7) rfl rfl (by omega) (by decide) ?_
      rw [r7]
      refine R_keeps (i := 7) rfl rfl (by omega) (by decide) ?_
      rw [er]
      refine R_of (i := 9) rfl rfl (by omega) (by decide) ?_
      rw [r9, if_neg (fun z => c1 (e8.trans z))]
      exact wR Q hQ
theorem S_fire (hT : pn_T P L v m e σ ρ) (hZ : pn_A P σ e) {p : Nat} (hp : p < P) :
    ∃ m2 σ2 ρ2, pn_T P L v m2 e σ2 ρ2 ∧ pn_f e σ σ2 ∧ pn_g ρ ρ2 ∧ pn_A P σ2 e ∧ (∀ Q : sx_M → Prop, Q σ2 → wp_En_goOn e (nI p) σ Q) ∧ (∀ Q : sx_M → sx_L → Prop, Q ρ2 θ → wp_Mo_fires (nI p) ρ θ Q) := by
  have h7 := hT.p7
  have no : ∀ {A : Prop} {i j : Nat}, i ≠ j → i = j → A := fun h1 h2 => absurd h2 h1
  have ip : vp_in (nI p) 7 := vp_in_nI (by omega) (by decide)
  have cp : (nI p).toNatClampNeg = p := nI_clamp (by omega)
  have e5 : ρ 68 0 0 (26 + 10 * p + 4) = σ 27 e p 5 := hT.fld hp (w := 4) (by decide)
  by_cases c1 : σ 27 e p 5 ≤ 0
  · obtain ⟨m2, σ2, ρ2, T2, f2, g2, Z2, wC, wR⟩ := S_far (θ := θ) hT hZ hp
    refine ⟨m2, σ2, ρ2, T2, f2, g2, Z2, fun Q hQ => ?_, fun Q hQ => ?_⟩
    · unfold wp_En_goOn; rw [cp, if_pos c1]; exact ⟨ip, wC Q hQ⟩
    · unfold wp_Mo_fires
      refine R_of (i := 4) rfl rfl (by omega) (by decide) ?_
      rw [e5, if_pos c1]; exact wR Q hQ
  · have T1 := hT.setP (w0 := 4) (x := σ 27 e p 5 - 1) hp (by decide) (no (by decide)) (no (by decide)) (no (by decide)) (no (by decide)) (no (by decide))
    have f1 : pn_f e σ (sx_u σ 27 e p 5 (σ 27 e p 5 - 1)) := pn_f.rf.u ⟨by omega, rfl⟩
    have q1 : pn_q e p σ (sx_u σ 27 e p 5 (σ 27 e p 5 - 1)) := ⟨fun q p' h => sx_u_row _ _ _ _ _ _ (by omega), fun p' j hj => by rw [sx_u_at, if_neg (by omega)]⟩
    have Z1 : pn_Z P (sx_u σ 27 e p 5 (σ 27 e p 5 - 1)) e (fun x => x = p) := (show pn_Z P σ e (fun x => x = p) from fun p' p0 pP _ a b => hZ p' p0 pP (fun z => z) a b).mv f1 q1 (Or.inl rfl)
    have e51 : sx_u σ 27 e p 5 (σ 27 e p 5 - 1) 27 e p 5 = σ 27 e p 5 - 1 := by rw [sx_u_at]; simp
    by_cases c2 : σ 27 e p 5 = 1
    · obtain ⟨m2, σ2, ρ2, T2, f2, g2, q2, z2, wC2, wR2⟩ := S_choose (θ := θ) T1 hp
      have Z2' := Z1.mv f2 q2 (Or.inl rfl)
      have Z2 : pn_A P σ2 e := fun p' p0 pP _ pon pr => by
        by_cases e6 : p' = p
        · subst e6; exact z2 p0 pon pr
        · exact Z2' p' p0 pP e6 pon pr
      obtain ⟨m3, σ3, ρ3, T3, f3, g3, Z3, wC, wR⟩ := S_far (θ := θ) T2 Z2 hp
      refine ⟨m3, σ3, ρ3, T3, (f1.tr f2).tr f3, ((pn_g.rf.u rfl).tr g2).tr g3, Z3, fun Q hQ => ?_, fun Q hQ => ?_⟩
      · unfold wp_En_goOn
        rw [cp, if_neg c1]
        exact ⟨ip, fun _ q => by subst q; exact wC2 _ (wC Q hQ)⟩
      · unfold wp_Mo_fires
        refine R_of (i := 4) rfl rfl (by omega) (by decide) ?_
        rw [e5, if_neg c1]
        refine R_keeps (i := 4) rfl rfl (by omega) (by decide) ?_
        rw [if_pos c2]
        exact wR2 _ (wR Q hQ)
    · have c3 : ¬ σ 27 e p 5 - 1 ≤ 0 := by
        obtain ⟨j, hj, ej⟩ := nI_of (x := σ 27 e p 5) (fun z => c1 (by
          have a := Int32.lt_iff_toInt_lt.mp z
          exact Int32.le_iff_toInt_le.mpr (by omega)))
        rw [ej] at c1 c2 ⊢
        have j0 : j ≠ 0 := fun z => c1 (by rw [z]; decide)
        have j1 : j ≠ 1 := fun z => c2 (by rw [z]; rfl)
        have : nI j - 1 = nI (j - 1) := by
          have := nI_pred (j - 1)
          rwa [show j - 1 + 1 = j by omega] at this
        rw [this]
        exact nI_nle (by omega) (by omega)
      have Z2 : pn_A P (sx_u σ 27 e p 5 (σ 27 e p 5 - 1)) e := fun p' p0 pP _ pon pr => by
        by_cases e6 : p' = p
        · subst e6; rw [e51] at pr; exact absurd pr c3
        · exact Z1 p' p0 pP e6 pon pr
      obtain ⟨m3, σ3, ρ3, T3, f3, g3, Z3, wC, wR⟩ := S_far (θ := θ) T1 Z2 hp
      refine ⟨m3, σ3, ρ3, T3, f1.tr f3, (pn_g.rf.u rfl).tr g3, Z3, fun Q hQ => ?_, fun Q hQ => ?_⟩
      · unfold wp_En_goOn
        rw [cp, if_neg c1]
        refine ⟨ip, fun _ q => ?_⟩
        subst q
        exact C_noop T1 hp (fun _ _ h => absurd h (by rw [e51]; exact c3)) (wC Q hQ)
      · unfold wp_Mo_fires
        refine R_of (i := 4) rfl rfl (by omega) (by decide) ?_
        rw [e5, if_neg c1]
        refine R_keeps (i := 4) rfl rfl (by omega) (by decide) ?_
        rw [if_neg c2]
        exact wR Q hQ
end TICK
