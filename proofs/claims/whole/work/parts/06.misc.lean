/-- the ids of the two sides -/
def kx_C (K : sx_K) : Prop := ∀ k n p, n < kx_nb k → p < kx_pb k → (k, n, p) ∈ K.2.2.2
def kx_F (K : sx_K) : Prop := (∀ k, 50 ≤ k → k < 75 → (k, 0, 0) ∈ K.2.2.2) ∧ ∀ k n p, (k, n, p) ∈ K.2.2.2 → n = 0 ∧ p = 0
theorem sx_lt {i : Int32} {n : Nat} (h : vp_in i n) : i.toNatClampNeg < n := Nat.not_le.mp fun q => h (Or.inr q)
theorem sx_past {i : Int32} (h : vp_in i 20) : 2 + i.toNatClampNeg < 25 := by have := sx_lt h; omega
theorem sx_slot {i : Int32} (h : vp_in i 3) : 22 + i.toNatClampNeg < 25 := by have := sx_lt h; omega
theorem sx_w2 {n : Nat} (h : n < 2) : n < 25 := by omega
theorem sx_w25 {n : Nat} (h : n < 25) : n < 27 := by omega
theorem sx_w27 {n : Nat} (h : n < 2) : 25 + n < 27 := by omega
theorem sx_nb {x : Int32} (h : x = 0 ∨ x = 1) : narrow .boolean (.int x) = .int x := by rcases h with rfl | rfl <;> rfl
theorem sx_fb {x : Int32} (h : x = 0 ∨ x = 1) : fits .boolean (.int x) = true := by rcases h with rfl | rfl <;> rfl
section SXD
variable {X : sx_T} {K : sx_K} {cc : ByteArray} {nL : Nat} {own : String} {ret : Option FieldType} {rm : Room} {l : Launch} {pc pc2 : Nat} {lv : List (Nat × Value)} {st : List Value} {P : Heap → Prop} {σ : sx_M} {τ : sx_L}
theorem sx_ref {a a2 : Nat} (h : a = a2) (k : sx_G X K nL pc lv (.ref a2 :: st) P) : sx_G X K nL pc lv (.ref a :: st) P := by subst h; exact k
theorem sx_nm (k : ∀ σ2 : sx_M, σ2 = σ → sx_G X K nL pc lv st (sx_H K σ2 τ)) : sx_G X K nL pc lv st (sx_H K σ τ) := k σ rfl
theorem sx_nml (k : ∀ τ2 : sx_L, τ2 = τ → sx_G X K nL pc lv st (sx_H K σ τ2)) : sx_G X K nL pc lv st (sx_H K σ τ) := k τ rfl
theorem sx_dup2 (hX : sx_C X K cc nL own ret rm l) {va vb : Value} (hd : decode cc pc = .ok (.dup2, 1)) (h1 : va.category = 1) (h2 : vb.category = 1) (hp : pc + 1 = pc2) (k : sx_G X K nL pc2 lv (va :: vb :: va :: vb :: st) P) : sx_G X K nL pc lv (va :: vb :: st) P := by
  subst hp
  intro H locs ls hP hS hl
  exact lv_dup2_11 hX.1 hX.2.1 hd h1 h2 (k H locs ls hP hS hl)
theorem sx_lcmp (hX : sx_C X K cc nL own ret rm l) {x y : Int64} (hd : decode cc pc = .ok (.lcmp, 1)) (hp : pc + 1 = pc2) (k : sx_G X K nL pc2 lv (.int (lg_cmp x y) :: st) P) : sx_G X K nL pc lv (.long y :: .long x :: st) P := by
  subst hp
  intro H locs ls hP hS hl
  exact W.lcmp hX.1 hX.2.1 hd (k H locs ls hP hS hl)
end SXD
theorem kr_50 {K : sx_K} (hK : kx_F K) : (50, 0, 0) ∈ K.2.2.2 := hK.1 50 (by decide) (by decide)
theorem kr_51 {K : sx_K} (hK : kx_F K) : (51, 0, 0) ∈ K.2.2.2 := hK.1 51 (by decide) (by decide)
theorem kr_52 {K : sx_K} (hK : kx_F K) : (52, 0, 0) ∈ K.2.2.2 := hK.1 52 (by decide) (by decide)
theorem kr_53 {K : sx_K} (hK : kx_F K) : (53, 0, 0) ∈ K.2.2.2 := hK.1 53 (by decide) (by decide)
theorem kr_54 {K : sx_K} (hK : kx_F K) : (54, 0, 0) ∈ K.2.2.2 := hK.1 54 (by decide) (by decide)
theorem kr_55 {K : sx_K} (hK : kx_F K) : (55, 0, 0) ∈ K.2.2.2 := hK.1 55 (by decide) (by decide)
theorem kr_56 {K : sx_K} (hK : kx_F K) : (56, 0, 0) ∈ K.2.2.2 := hK.1 56 (by decide) (by decide)
theorem kr_57 {K : sx_K} (hK : kx_F K) : (57, 0, 0) ∈ K.2.2.2 := hK.1 57 (by decide) (by decide)
theorem kr_58 {K : sx_K} (hK : kx_F K) : (58, 0, 0) ∈ K.2.2.2 := hK.1 58 (by decide) (by decide)
theorem kr_59 {K : sx_K} (hK : kx_F K) : (59, 0, 0) ∈ K.2.2.2 := hK.1 59 (by decide) (by decide)
theorem kr_60 {K : sx_K} (hK : kx_F K) : (60, 0, 0) ∈ K.2.2.2 := hK.1 60 (by decide) (by decide)
theorem kr_61 {K : sx_K} (hK : kx_F K) : (61, 0, 0) ∈ K.2.2.2 := hK.1 61 (by decide) (by decide)
theorem kr_62 {K : sx_K} (hK : kx_F K) : (62, 0, 0) ∈ K.2.2.2 := hK.1 62 (by decide) (by decide)
theorem kr_63 {K : sx_K} (hK : kx_F K) : (63, 0, 0) ∈ K.2.2.2 := hK.1 63 (by decide) (by decide)
theorem kr_64 {K : sx_K} (hK : kx_F K) : (64, 0, 0) ∈ K.2.2.2 := hK.1 64 (by decide) (by decide)
theorem kr_65 {K : sx_K} (hK : kx_F K) : (65, 0, 0) ∈ K.2.2.2 := hK.1 65 (by decide) (by decide)
theorem kr_66 {K : sx_K} (hK : kx_F K) : (66, 0, 0) ∈ K.2.2.2 := hK.1 66 (by decide) (by decide)
theorem kr_67 {K : sx_K} (hK : kx_F K) : (67, 0, 0) ∈ K.2.2.2 := hK.1 67 (by decide) (by decide)
theorem kr_68 {K : sx_K} (hK : kx_F K) : (68, 0, 0) ∈ K.2.2.2 := hK.1 68 (by decide) (by decide)
theorem kr_69 {K : sx_K} (hK : kx_F K) : (69, 0, 0) ∈ K.2.2.2 := hK.1 69 (by decide) (by decide)
theorem kr_70 {K : sx_K} (hK : kx_F K) : (70, 0, 0) ∈ K.2.2.2 := hK.1 70 (by decide) (by decide)
theorem kr_71 {K : sx_K} (hK : kx_F K) : (71, 0, 0) ∈ K.2.2.2 := hK.1 71 (by decide) (by decide)
theorem kr_72 {K : sx_K} (hK : kx_F K) : (72, 0, 0) ∈ K.2.2.2 := hK.1 72 (by decide) (by decide)
theorem kr_73 {K : sx_K} (hK : kx_F K) : (73, 0, 0) ∈ K.2.2.2 := hK.1 73 (by decide) (by decide)
theorem kr_74 {K : sx_K} (hK : kx_F K) : (74, 0, 0) ∈ K.2.2.2 := hK.1 74 (by decide) (by decide)
