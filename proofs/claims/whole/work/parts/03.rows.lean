def kx_len : List Nat := [0, 2, 4, 2, 2, 84]
def kx_byt : List (List Int32) := [[], [110, 59], [110, 110, 105, 59], [103, 59], [105, 59], [112, 111, 115, 116, 32, 32, 108, 105, 110, 107, 32, 32, 102, 105, 114, 115, 116, 32, 116, 119, 105, 99, 101, 32, 101, 110, 111, 117, 103, 104, 97, 112, 97, 114, 116, 32, 114, 105, 115, 101, 32, 32, 114, 101, 115, 116, 32, 32, 102, 114, 101, 115, 104, 32, 110, 111, 105, 115, 101, 32, 115, 101, 101, 100, 32, 32, 103, 111, 97, 108, 32, 32, 104, 111, 112, 115, 32, 32, 99, 111, 115, 116, 115, 32]]
def kx_sta (i j : Nat) : Int32 := ((([[4, 3, 2, 5, 60, 4, 12, 0, 0], [2, 0, 1, 0, 0, 1, 2, 0, 0], [8, 4, 9, 99, 999, 20, 60, 100, 9999]] : List (List Int32)).getD i []).getD j 0)
/-- what is only read: six texts, three rows of numbers, two statics -/
def sx_RO (K : sx_K) (U : State) (H : Heap) : Prop :=
  vk_S 6 kx_len kx_byt (fun i => K.2.2.1 40 i 0) (fun i => K.2.2.1 41 i 0) (sx_A K) U H ∧
  (va_Z kx_R4 "USUAL" "[I" (.ref (K.2.2.1 42 0 0)) (sx_A K) U H ∧ va_T .int (K.2.2.1 42 0 0) 9 (fun j => .int (kx_sta 0 j)) (sx_A K) U H) ∧
  (va_Z kx_R4 "LEAST" "[I" (.ref (K.2.2.1 42 1 0)) (sx_A K) U H ∧ va_T .int (K.2.2.1 42 1 0) 9 (fun j => .int (kx_sta 1 j)) (sx_A K) U H) ∧
  (va_Z kx_R4 "MOST" "[I" (.ref (K.2.2.1 42 2 0)) (sx_A K) U H ∧ va_T .int (K.2.2.1 42 2 0) 9 (fun j => .int (kx_sta 2 j)) (sx_A K) U H) ∧
  va_Z "java/lang/String" "COMPACT_STRINGS" "Z" (.int 1) (sx_A K) U H ∧ va_Zq "jdk/internal/util/Preconditions" "SIOOBE_FORMATTER" "Ljava/util/function/BiFunction;" (sx_A K) U H
theorem sx_RO.moved {K : sx_K} {u U : State} {H : Heap} (hvm : u.vm.Alike U.vm) (h : sx_RO K u H) : sx_RO K U H :=
  ⟨h.1.moved hvm, ⟨h.2.1.1.moved hvm, h.2.1.2.moved hvm⟩, ⟨h.2.2.1.1.moved hvm, h.2.2.1.2.moved hvm⟩, ⟨h.2.2.2.1.1.moved hvm, h.2.2.2.1.2.moved hvm⟩, h.2.2.2.2.1.moved hvm, h.2.2.2.2.2.moved hvm⟩
theorem sx_RO.kept {K : sx_K} {U : State} {H H1 : Heap} (h : sx_RO K U H) (hq : ∀ a : Nat, a < H.size → ¬ sx_A K a → H1[a]? = H[a]?) : sx_RO K U H1 :=
  ⟨h.1.kept hq, ⟨h.2.1.1.kept hq, h.2.1.2.kept hq⟩, ⟨h.2.2.1.1.kept hq, h.2.2.1.2.kept hq⟩, ⟨h.2.2.2.1.1.kept hq, h.2.2.2.1.2.kept hq⟩, h.2.2.2.2.1.kept hq, h.2.2.2.2.2.kept hq⟩
/-- the texts as the constants name them -/
def sx_TX (K : sx_K) (U : State) : Prop := vk_R kx_R8 31 "" (K.2.2.1 40 0 0) U ∧ vk_R kx_R8 95 "n;" (K.2.2.1 40 1 0) U ∧ vk_R kx_R8 97 "nni;" (K.2.2.1 40 2 0) U ∧ vk_R kx_R8 99 "g;" (K.2.2.1 40 3 0) U ∧ vk_R kx_R8 101 "i;" (K.2.2.1 40 4 0) U ∧ vk_R kx_R8 121 "post  link  first twice enoughapart rise  rest  fresh noise seed  goal  hops  costs " (K.2.2.1 40 5 0) U
theorem sx_TX.warm {K : sx_K} {s U : State} (hW : s.WarmedH U.vm) (h : sx_TX K s) : sx_TX K U := ⟨h.1.warm hW, h.2.1.warm hW, h.2.2.1.warm hW, h.2.2.2.1.warm hW, h.2.2.2.2.1.warm hW, h.2.2.2.2.2.warm hW⟩
theorem sx_TX.same {K : sx_K} {s U : State} (hv : U.vm = s.vm) (h : sx_TX K s) : sx_TX K U := ⟨h.1.same hv, h.2.1.same hv, h.2.2.1.same hv, h.2.2.2.1.same hv, h.2.2.2.2.1.same hv, h.2.2.2.2.2.same hv⟩
/-- what holds of the machine's tables and of what is only read -/
def sx_S (K : sx_K) (U : State) : Prop := sx_ok K ∧ va_K K.1 kx_cl (sx_ty K) U ∧ sx_RO K U U.heap ∧ sx_TX K U
theorem sx_S.calling {K : sx_K} {U : State} {g : JFrame} {mk : MethodId} {a : Array Value} (h : sx_S K U) : sx_S K (U.calling g mk a) :=
  ⟨h.1, va_K.moved (u := U) (U := U.calling g mk a) (Vm.Alike.refl U.vm) h.2.1, sx_RO.moved (u := U) (U := U.calling g mk a) (Vm.Alike.refl U.vm) h.2.2.1, h.2.2.2.same rfl⟩
theorem sx_S.at {K : sx_K} {s U : State} {H : Heap} {locs : List Loc} (h : sx_S K s) (hW : s.WarmedH U.vm) (hS : va_S (sx_A K) s.heap H locs) (hU : U.heap = H) : sx_S K U :=
  ⟨h.1, va_K.moved hW.alike h.2.1, by rw [hU]; exact (h.2.2.1.kept hS.2.1).moved hW.alike, h.2.2.2.warm hW⟩
/-- a method's run: the machine, the launch, the surroundings, the room, its start, itself, its arguments, what is below, its code, its end -/
abbrev sx_T : Type := Program × Launch × Env × Room × State × MethodId × Array Value × List Frame × Method × Code × (State → Prop) × Nat × Nat
abbrev sx_p (X : sx_T) : Program := X.1
abbrev sx_l (X : sx_T) : Launch := X.2.1
abbrev sx_e (X : sx_T) : Env := X.2.2.1
abbrev sx_rm (X : sx_T) : Room := X.2.2.2.1
abbrev sx_s (X : sx_T) : State := X.2.2.2.2.1
abbrev sx_m (X : sx_T) : MethodId := X.2.2.2.2.2.1
abbrev sx_a (X : sx_T) : Array Value := X.2.2.2.2.2.2.1
abbrev sx_b (X : sx_T) : List Frame := X.2.2.2.2.2.2.2.1
abbrev sx_h (X : sx_T) : Method := X.2.2.2.2.2.2.2.2.1
abbrev sx_c (X : sx_T) : Code := X.2.2.2.2.2.2.2.2.2.1
abbrev sx_q (X : sx_T) : State → Prop := X.2.2.2.2.2.2.2.2.2.2.1
abbrev sx_n1 (X : sx_T) : Nat := X.2.2.2.2.2.2.2.2.2.2.2.1
abbrev sx_n2 (X : sx_T) : Nat := X.2.2.2.2.2.2.2.2.2.2.2.2
def sx_W (X : sx_T) (H : Heap) (locs : List Loc) (g : JFrame) : Prop := W (sx_p X) (sx_l X) (sx_e X) (sx_rm X) (sx_s X) (sx_m X) (sx_a X) (sx_b X) (sx_h X) (sx_c X) H locs (sx_n1 X) (sx_n2 X) (sx_q X) g
/-- all that a walk knows of its run -/
def sx_C (X : sx_T) (K : sx_K) (cc : ByteArray) (nL : Nat) (own : String) (ret : Option FieldType) (rm : Room) (l : Launch) : Prop :=
  (sx_p X).tables.exec = Jvm.exec ∧ (sx_c X).code = cc ∧ (sx_h X).sig.returnType = ret ∧ (sx_c X).maxLocals = nL ∧ (sx_s X).vm.findClass own = some (sx_m X).cls ∧ (∀ w ∈ lw_g, w.before (sx_a X) (sx_s X) = true) ∧ ((sx_h X).locks = false ∧ sx_n1 X ≤ (sx_rm X).cells ∧ sx_n2 X ≤ (sx_rm X).slots) ∧ sx_rm X = rm ∧ sx_l X = l ∧ sx_S K (sx_s X)
def sx_GA (X : sx_T) (A : Nat → Prop) (nL pc : Nat) (lv : List (Nat × Value)) (st : List Value) (P : Heap → Prop) : Prop :=
  ∀ (H : Heap) (locs : List Loc) (ls : Array Slot), P H → va_S A (sx_s X).heap H locs → lv_has ls nL lv → sx_W X H locs (F0 (sx_m X) pc ls st)
abbrev sx_G (X : sx_T) (K : sx_K) (nL pc : Nat) (lv : List (Nat × Value)) (st : List Value) (P : Heap → Prop) : Prop := sx_GA X (sx_A K) nL pc lv st P
theorem sx_t {c A B : Prop} {d : Decidable c} (h : @ite Prop c d A B) (hc : c) : A := by rw [if_pos hc] at h; exact h
theorem sx_f {c A B : Prop} {d : Decidable c} (h : @ite Prop c d A B) (hc : ¬ c) : B := by rw [if_neg hc] at h; exact h
section SXA
variable {X : sx_T} {K : sx_K} {A : Nat → Prop} {cc : ByteArray} {nL : Nat} {own : String} {ret : Option FieldType} {rm : Room} {l : Launch} {pc pc2 : Nat} {lv : List (Nat × Value)} {st : List Value} {P : Heap → Prop}
theorem sx_iconst (hX : sx_C X K cc nL own ret rm l) {n : Int} {v : Int32} (hd : decode cc pc = .ok (.iconst n, 1)) (hv : Int32.ofInt n = v) (hp : pc + 1 = pc2) (k : sx_GA X A nL pc2 lv (.int v :: st) P) : sx_GA X A nL pc lv st P := by
  subst hp
  intro H locs ls hP hS hl
  exact lv_iconst hX.1 hX.2.1 hd hv (k H locs ls hP hS hl)
theorem sx_bipush (hX : sx_C X K cc nL own ret rm l) {n : Int} {v : Int32} (hd : decode cc pc = .ok (.bipush n, 2)) (hv : (Int8.ofInt n).toInt32 = v) (hp : pc + 2 = pc2) (k : sx_GA X A nL pc2 lv (.int v :: st) P) : sx_GA X A nL pc lv st P := by
  subst hp
  intro H locs ls hP hS hl
  exact lv_bipush hX.1 hX.2.1 hd hv (k H locs ls hP hS hl)
theorem sx_sipush (hX : sx_C X K cc nL own ret rm l) {n : Int} {v : Int32} (hd : decode cc pc = .ok (.sipush n, 3)) (hv : (Int16.ofInt n).toInt32 = v) (hp : pc + 3 = pc2) (k : sx_GA X A nL pc2 lv (.int v :: st) P) : sx_GA X A nL pc lv st P := by
  subst hp
  intro H locs ls hP hS hl
  exact lv_sipush hX.1 hX.2.1 hd hv (k H locs ls hP hS hl)
theorem sx_lconst (hX : sx_C X K cc nL own ret rm l) {n : Fin 2} {v : Int64} (hd : decode cc pc = .ok (.lconst n, 1)) (hv : Int64.ofNat (n : Nat) = v) (hp : pc + 1 = pc2) (k : sx_GA X A nL pc2 lv (.long v :: st) P) : sx_GA X A nL pc lv st P := by
  subst hp
  intro H locs ls hP hS hl
  exact lv_lconst hX.1 hX.2.1 hd hv (k H locs ls hP hS hl)
theorem sx_iload_n (hX : sx_C X K cc nL own ret rm l) {k2 : Fin 4} {i : Nat} {x : Int32} (j : Nat) (hd : decode cc pc = .ok (.iload_n k2, 1)) (hi : (k2 : Nat) = i) (hj : lv[j]? = some (i, .int x)) (hp : pc + 1 = pc2) (k : sx_GA X A nL pc2 lv (.int x :: st) P) : sx_GA X A nL pc lv st P := by
  subst hp
  intro H locs ls hP hS hl
  exact lv_iload_n hX.1 hX.2.1 hd hi (lv_at hl j hj) (k H locs ls hP hS hl)
theorem sx_iload (hX : sx_C X K cc nL own ret rm l) {i : Nat} {x : Int32} (j : Nat) (hd : decode cc pc = .ok (.iload i, 2)) (hj : lv[j]? = some (i, .int x)) (hp : pc + 2 = pc2) (k : sx_GA X A nL pc2 lv (.int x :: st) P) : sx_GA X A nL pc lv st P := by
  subst hp
  intro H locs ls hP hS hl
  exact lv_iload hX.1 hX.2.1 hd (lv_at hl j hj) (k H locs ls hP hS hl)
theorem sx_lload_n (hX : sx_C X K cc nL own ret rm l) {k2 : Fin 4} {i : Nat} {x : Int64} (j : Nat) (hd : decode cc pc = .ok (.lload_n k2, 1)) (hi : (k2 : Nat) = i) (hj : lv[j]? = some (i, .long x)) (hp : pc + 1 = pc2) (k : sx_GA X A nL pc2 lv (.long x :: st) P) : sx_GA X A nL pc lv st P := by
  subst hp
  intro H locs ls hP hS hl
  exact lv_lload_n hX.1 hX.2.1 hd hi (lv_at hl j hj) (k H locs ls hP hS hl)
theorem sx_lload (hX : sx_C X K cc nL own ret rm l) {i : Nat} {x : Int64} (j : Nat) (hd : decode cc pc = .ok (.lload i, 2)) (hj : lv[j]? = some (i, .long x)) (hp : pc + 2 = pc2) (k : sx_GA X A nL pc2 lv (.long x :: st) P) : sx_GA X A nL pc lv st P := by
  subst hp
  intro H locs ls hP hS hl
  exact lv_lload hX.1 hX.2.1 hd (lv_at hl j hj) (k H locs ls hP hS hl)
theorem sx_aload_n (hX : sx_C X K cc nL own ret rm l) {k2 : Fin 4} {i : Nat} {x : Nat} (j : Nat) (hd : decode cc pc = .ok (.aload_n k2, 1)) (hi : (k2 : Nat) = i) (hj : lv[j]? = some (i, .ref x)) (hp : pc + 1 = pc2) (k : sx_GA X A nL pc2 lv (.ref x :: st) P) : sx_GA X A nL pc lv st P := by
  subst hp
  intro H locs ls hP hS hl
  exact lv_aload_n hX.1 hX.2.1 hd hi (lv_at hl j hj) (k H locs ls hP hS hl)
theorem sx_aload (hX : sx_C X K cc nL own ret rm l) {i : Nat} {x : Nat} (j : Nat) (hd : decode cc pc = .ok (.aload i, 2)) (hj : lv[j]? = some (i, .ref x)) (hp : pc + 2 = pc2) (k : sx_GA X A nL pc2 lv (.ref x :: st) P) : sx_GA X A nL pc lv st P := by
  subst hp
  intro H locs ls hP hS hl
  exact lv_aload hX.1 hX.2.1 hd (lv_at hl j hj) (k H locs ls hP hS hl)
theorem sx_iadd (hX : sx_C X K cc nL own ret rm l) {x y : Int32} (hd : decode cc pc = .ok (.iadd, 1)) (hp : pc + 1 = pc2) (k : sx_GA X A nL pc2 lv (.int (x + y) :: st) P) : sx_GA X A nL pc lv (.int y :: .int x :: st) P := by
  subst hp
  intro H locs ls hP hS hl
  exact lv_iadd hX.1 hX.2.1 hd (k H locs ls hP hS hl)
theorem sx_isub (hX : sx_C X K cc nL own ret rm l) {x y : Int32} (hd : decode cc pc = .ok (.isub, 1)) (hp : pc + 1 = pc2) (k : sx_GA X A nL pc2 lv (.int (x - y) :: st) P) : sx_GA X A nL pc lv (.int y :: .int x :: st) P := by
  subst hp
  intro H locs ls hP hS hl
  exact lv_isub hX.1 hX.2.1 hd (k H locs ls hP hS hl)
theorem sx_imul (hX : sx_C X K cc nL own ret rm l) {x y : Int32} (hd : decode cc pc = .ok (.imul, 1)) (hp : pc + 1 = pc2) (k : sx_GA X A nL pc2 lv (.int (x * y) :: st) P) : sx_GA X A nL pc lv (.int y :: .int x :: st) P := by
  subst hp
  intro H locs ls hP hS hl
  exact lv_imul hX.1 hX.2.1 hd (k H locs ls hP hS hl)
theorem sx_iand (hX : sx_C X K cc nL own ret rm l) {x y : Int32} (hd : decode cc pc = .ok (.iand, 1)) (hp : pc + 1 = pc2) (k : sx_GA X A nL pc2 lv (.int (x &&& y) :: st) P) : sx_GA X A nL pc lv (.int y :: .int x :: st) P := by
  subst hp
  intro H locs ls hP hS hl
  exact lv_iand hX.1 hX.2.1 hd (k H locs ls hP hS hl)
theorem sx_ior (hX : sx_C X K cc nL own ret rm l) {x y : Int32} (hd : decode cc pc = .ok (.ior, 1)) (hp : pc + 1 = pc2) (k : sx_GA X A nL pc2 lv (.int (x ||| y) :: st) P) : sx_GA X A nL pc lv (.int y :: .int x :: st) P := by
  subst hp
  intro H locs ls hP hS hl
  exact lv_ior hX.1 hX.2.1 hd (k H locs ls hP hS hl)
theorem sx_ixor (hX : sx_C X K cc nL own ret rm l) {x y : Int32} (hd : decode cc pc = .ok (.ixor, 1)) (hp : pc + 1 = pc2) (k : sx_GA X A nL pc2 lv (.int (x ^^^ y) :: st) P) : sx_GA X A nL pc lv (.int y :: .int x :: st) P := by
  subst hp
  intro H locs ls hP hS hl
  exact lv_ixor hX.1 hX.2.1 hd (k H locs ls hP hS hl)
theorem sx_ladd (hX : sx_C X K cc nL own ret rm l) {x y : Int64} (hd : decode cc pc = .ok (.ladd, 1)) (hp : pc + 1 = pc2) (k : sx_GA X A nL pc2 lv (.long (x + y) :: st) P) : sx_GA X A nL pc lv (.long y :: .long x :: st) P := by
  subst hp
  intro H locs ls hP hS hl
  exact lv_ladd hX.1 hX.2.1 hd (k H locs ls hP hS hl)
theorem sx_lmul (hX : sx_C X K cc nL own ret rm l) {x y : Int64} (hd : decode cc pc = .ok (.lmul, 1)) (hp : pc + 1 = pc2) (k : sx_GA X A nL pc2 lv (.long (x * y) :: st) P) : sx_GA X A nL pc lv (.long y :: .long x :: st) P := by
  subst hp
  intro H locs ls hP hS hl
  exact lv_lmul hX.1 hX.2.1 hd (k H locs ls hP hS hl)
theorem sx_idiv (hX : sx_C X K cc nL own ret rm l) {x y : Int32} (hd : decode cc pc = .ok (.idiv, 1)) (hy : ¬ y = 0) (hp : pc + 1 = pc2) (k : sx_GA X A nL pc2 lv (.int (x / y) :: st) P) : sx_GA X A nL pc lv (.int y :: .int x :: st) P := by
  subst hp
  intro H locs ls hP hS hl
  exact lv_idiv hX.1 hX.2.1 hd hy (k H locs ls hP hS hl)
theorem sx_irem (hX : sx_C X K cc nL own ret rm l) {x y : Int32} (hd : decode cc pc = .ok (.irem, 1)) (hy : ¬ y = 0) (hp : pc + 1 = pc2) (k : sx_GA X A nL pc2 lv (.int (x - x / y * y) :: st) P) : sx_GA X A nL pc lv (.int y :: .int x :: st) P := by
  subst hp
  intro H locs ls hP hS hl
  exact lv_irem hX.1 hX.2.1 hd hy (k H locs ls hP hS hl)
theorem sx_ishl (hX : sx_C X K cc nL own ret rm l) {x y : Int32} (hd : decode cc pc = .ok (.ishl, 1)) (hp : pc + 1 = pc2) (k : sx_GA X A nL pc2 lv (.int (x <<< (y &&& 31)) :: st) P) : sx_GA X A nL pc lv (.int y :: .int x :: st) P := by
  subst hp
  intro H locs ls hP hS hl
  exact lv_ishl hX.1 hX.2.1 hd (k H locs ls hP hS hl)
theorem sx_ishr (hX : sx_C X K cc nL own ret rm l) {x y : Int32} (hd : decode cc pc = .ok (.ishr, 1)) (hp : pc + 1 = pc2) (k : sx_GA X A nL pc2 lv (.int (x >>> (y &&& 31)) :: st) P) : sx_GA X A nL pc lv (.int y :: .int x :: st) P := by
  subst hp
  intro H locs ls hP hS hl
  exact lv_ishr hX.1 hX.2.1 hd (k H locs ls hP hS hl)
theorem sx_iushr (hX : sx_C X K cc nL own ret rm l) {x y : Int32} (hd : decode cc pc = .ok (.iushr, 1)) (hp : pc + 1 = pc2) (k : sx_GA X A nL pc2 lv (.int (x.toUInt32 >>> (y.toUInt32 &&& Int32.toUInt32 31)).toInt32 :: st) P) : sx_GA X A nL pc lv (.int y :: .int x :: st) P := by
  subst hp
  intro H locs ls hP hS hl
  exact lv_iushr hX.1 hX.2.1 hd rfl (k H locs ls hP hS hl)
theorem sx_i2b (hX : sx_C X K cc nL own ret rm l) {x : Int32} (hd : decode cc pc = .ok (.i2b, 1)) (hp : pc + 1 = pc2) (k : sx_GA X A nL pc2 lv (.int x.toInt8.toInt32 :: st) P) : sx_GA X A nL pc lv (.int x :: st) P := by
  subst hp
  intro H locs ls hP hS hl
  exact lv_i2b hX.1 hX.2.1 hd rfl (k H locs ls hP hS hl)
theorem sx_i2l (hX : sx_C X K cc nL own ret rm l) {x : Int32} (hd : decode cc pc = .ok (.i2l, 1)) (hp : pc + 1 = pc2) (k : sx_GA X A nL pc2 lv (.long x.toInt64 :: st) P) : sx_GA X A nL pc lv (.int x :: st) P := by
  subst hp
  intro H locs ls hP hS hl
  exact lv_i2l hX.1 hX.2.1 hd rfl (k H locs ls hP hS hl)
theorem sx_i2c (hX : sx_C X K cc nL own ret rm l) {x : Int32} (hd : decode cc pc = .ok (.i2c, 1)) (hp : pc + 1 = pc2) (k : sx_GA X A nL pc2 lv (.int (x.toUInt32 % 65536).toInt32 :: st) P) : sx_GA X A nL pc lv (.int x :: st) P := by
  subst hp
  intro H locs ls hP hS hl
  exact lv_i2c hX.1 hX.2.1 hd rfl (k H locs ls hP hS hl)
theorem sx_dup (hX : sx_C X K cc nL own ret rm l) {v : Value} (hd : decode cc pc = .ok (.dup, 1)) (hv : v.category = 1) (hp : pc + 1 = pc2) (k : sx_GA X A nL pc2 lv (v :: v :: st) P) : sx_GA X A nL pc lv (v :: st) P := by
  subst hp
  intro H locs ls hP hS hl
  exact lv_dup hX.1 hX.2.1 hd hv (k H locs ls hP hS hl)
theorem sx_pop (hX : sx_C X K cc nL own ret rm l) {v : Value} (hd : decode cc pc = .ok (.pop, 1)) (hv : v.category = 1) (hp : pc + 1 = pc2) (k : sx_GA X A nL pc2 lv st P) : sx_GA X A nL pc lv (v :: st) P := by
  subst hp
  intro H locs ls hP hS hl
  exact lv_pop hX.1 hX.2.1 hd hv (k H locs ls hP hS hl)
theorem sx_istore_n (hX : sx_C X K cc nL own ret rm l) {k2 : Fin 4} {i : Nat} {x : Int32} (lv2 lv3 : List (Nat × Value)) (ks : List Nat) (hd : decode cc pc = .ok (.istore_n k2, 1)) (hi : (k2 : Nat) = i) (hn : i < nL) (hl2 : (i, Value.int x) :: lv.filter (fun q => !(q.1 == i) && !(q.1 + 1 == i && q.2.category == 2)) = lv2) (hl3 : lv_pick lv2 ks = lv3) (hp : pc + 1 = pc2) (k : sx_GA X A nL pc2 lv3 st P) : sx_GA X A nL pc lv (.int x :: st) P := by
  subst hp
  intro H locs ls hP hS hl
  exact lv_istore_n hX.1 hX.2.1 hd hi hl hn hl2 (fun ls2 h2 => k H locs ls2 hP hS (lv_sub h2 ks hl3))
theorem sx_istore (hX : sx_C X K cc nL own ret rm l) {i : Nat} {x : Int32} (lv2 lv3 : List (Nat × Value)) (ks : List Nat) (hd : decode cc pc = .ok (.istore i, 2)) (hn : i < nL) (hl2 : (i, Value.int x) :: lv.filter (fun q => !(q.1 == i) && !(q.1 + 1 == i && q.2.category == 2)) = lv2) (hl3 : lv_pick lv2 ks = lv3) (hp : pc + 2 = pc2) (k : sx_GA X A nL pc2 lv3 st P) : sx_GA X A nL pc lv (.int x :: st) P := by
  subst hp
  intro H locs ls hP hS hl
  exact lv_istore hX.1 hX.2.1 hd hl hn hl2 (fun ls2 h2 => k H locs ls2 hP hS (lv_sub h2 ks hl3))
theorem sx_lstore_n (hX : sx_C X K cc nL own ret rm l) {k2 : Fin 4} {i : Nat} {x : Int64} (lv2 lv3 : List (Nat × Value)) (ks : List Nat) (hd : decode cc pc = .ok (.lstore_n k2, 1)) (hi : (k2 : Nat) = i) (hn : i + 1 < nL) (hl2 : (i, Value.long x) :: lv.filter (fun q => !(q.1 == i) && (!(q.1 == i + 1) && !(q.1 + 1 == i && q.2.category == 2))) = lv2) (hl3 : lv_pick lv2 ks = lv3) (hp : pc + 1 = pc2) (k : sx_GA X A nL pc2 lv3 st P) : sx_GA X A nL pc lv (.long x :: st) P := by
  subst hp
  intro H locs ls hP hS hl
  exact lv_lstore_n hX.1 hX.2.1 hd hi hl hn hl2 (fun ls2 h2 => k H locs ls2 hP hS (lv_sub h2 ks hl3))
theorem sx_lstore (hX : sx_C X K cc nL own ret rm l) {i : Nat} {x : Int64} (lv2 lv3 : List (Nat × Value)) (ks : List Nat) (hd : decode cc pc = .ok (.lstore i, 2)) (hn : i + 1 < nL) (hl2 : (i, Value.long x) :: lv.filter (fun q => !(q.1 == i) && (!(q.1 == i + 1) && !(q.1 + 1 == i && q.2.category == 2))) = lv2) (hl3 : lv_pick lv2 ks = lv3) (hp : pc + 2 = pc2) (k : sx_GA X A nL pc2 lv3 st P) : sx_GA X A nL pc lv (.long x :: st) P := by
  subst hp
  intro H locs ls hP hS hl
  exact lv_lstore hX.1 hX.2.1 hd hl hn hl2 (fun ls2 h2 => k H locs ls2 hP hS (lv_sub h2 ks hl3))
theorem sx_astore_n (hX : sx_C X K cc nL own ret rm l) {k2 : Fin 4} {i : Nat} {x : Nat} (lv2 lv3 : List (Nat × Value)) (ks : List Nat) (hd : decode cc pc = .ok (.astore_n k2, 1)) (hi : (k2 : Nat) = i) (hn : i < nL) (hl2 : (i, Value.ref x) :: lv.filter (fun q => !(q.1 == i) && !(q.1 + 1 == i && q.2.category == 2)) = lv2) (hl3 : lv_pick lv2 ks = lv3) (hp : pc + 1 = pc2) (k : sx_GA X A nL pc2 lv3 st P) : sx_GA X A nL pc lv (.ref x :: st) P := by
  subst hp
  intro H locs ls hP hS hl
  exact lv_astore_n hX.1 hX.2.1 hd hi hl hn hl2 (fun ls2 h2 => k H locs ls2 hP hS (lv_sub h2 ks hl3))
theorem sx_astore (hX : sx_C X K cc nL own ret rm l) {i : Nat} {x : Nat} (lv2 lv3 : List (Nat × Value)) (ks : List Nat) (hd : decode cc pc = .ok (.astore i, 2)) (hn : i < nL) (hl2 : (i, Value.ref x) :: lv.filter (fun q => !(q.1 == i) && !(q.1 + 1 == i && q.2.category == 2)) = lv2) (hl3 : lv_pick lv2 ks = lv3) (hp : pc + 2 = pc2) (k : sx_GA X A nL pc2 lv3 st P) : sx_GA X A nL pc lv (.ref x :: st) P := by
  subst hp
  intro H locs ls hP hS hl
  exact lv_astore hX.1 hX.2.1 hd hl hn hl2 (fun ls2 h2 => k H locs ls2 hP hS (lv_sub h2 ks hl3))
theorem sx_iinc (hX : sx_C X K cc nL own ret rm l) {i : Nat} {n : Int} {x : Int32} (j : Nat) (lv2 lv3 : List (Nat × Value)) (ks : List Nat) (hd : decode cc pc = .ok (.iinc i n, 3)) (hj : lv[j]? = some (i, .int x)) (v : Int32) (hv : x + Int32.ofInt n = v) (hn : i < nL) (hl2 : (i, Value.int v) :: lv.filter (fun q => !(q.1 == i) && !(q.1 + 1 == i && q.2.category == 2)) = lv2) (hl3 : lv_pick lv2 ks = lv3) (hp : pc + 3 = pc2) (k : sx_GA X A nL pc2 lv3 st P) : sx_GA X A nL pc lv st P := by
  subst hp
  intro H locs ls hP hS hl
  exact lv_iinc hX.1 hX.2.1 hd hl hj hv hn hl2 (fun ls2 h2 => k H locs ls2 hP hS (lv_sub h2 ks hl3))
theorem sx_if_eq (hX : sx_C X K cc nL own ret rm l) {x : Int32} {off : Int} {tgt : Nat} (hd : decode cc pc = .ok (.ifCond .eq off, 3)) (ht : (pc : Int) + off = (tgt : Int)) (hp : pc + 3 = pc2) (kt : x = 0 → sx_GA X A nL tgt lv st P) (kf : ¬ x = 0 → sx_GA X A nL pc2 lv st P) : sx_GA X A nL pc lv (.int x :: st) P := by
  subst hp
  intro H locs ls hP hS hl
  exact lv_if_eq hX.1 hX.2.1 hd ht (fun c => kt c H locs ls hP hS hl) (fun c => kf c H locs ls hP hS hl)
theorem sx_if_ne (hX : sx_C X K cc nL own ret rm l) {x : Int32} {off : Int} {tgt : Nat} (hd : decode cc pc = .ok (.ifCond .ne off, 3)) (ht : (pc : Int) + off = (tgt : Int)) (hp : pc + 3 = pc2) (kt : ¬ x = 0 → sx_GA X A nL tgt lv st P) (kf : x = 0 → sx_GA X A nL pc2 lv st P) : sx_GA X A nL pc lv (.int x :: st) P := by
  subst hp
  intro H locs ls hP hS hl
  exact lv_if_ne hX.1 hX.2.1 hd ht (fun c => kt c H locs ls hP hS hl) (fun c => kf c H locs ls hP hS hl)
theorem sx_if_lt (hX : sx_C X K cc nL own ret rm l) {x : Int32} {off : Int} {tgt : Nat} (hd : decode cc pc = .ok (.ifCond .lt off, 3)) (ht : (pc : Int) + off = (tgt : Int)) (hp : pc + 3 = pc2) (kt : x < 0 → sx_GA X A nL tgt lv st P) (kf : ¬ x < 0 → sx_GA X A nL pc2 lv st P) : sx_GA X A nL pc lv (.int x :: st) P := by
  subst hp
  intro H locs ls hP hS hl
  exact lv_if_lt hX.1 hX.2.1 hd ht (fun c => kt c H locs ls hP hS hl) (fun c => kf c H locs ls hP hS hl)
theorem sx_if_ge (hX : sx_C X K cc nL own ret rm l) {x : Int32} {off : Int} {tgt : Nat} (hd : decode cc pc = .ok (.ifCond .ge off, 3)) (ht : (pc : Int) + off = (tgt : Int)) (hp : pc + 3 = pc2) (kt : 0 ≤ x → sx_GA X A nL tgt lv st P) (kf : ¬ 0 ≤ x → sx_GA X A nL pc2 lv st P) : sx_GA X A nL pc lv (.int x :: st) P := by
  subst hp
  intro H locs ls hP hS hl
  exact lv_if_ge hX.1 hX.2.1 hd ht (fun c => kt c H locs ls hP hS hl) (fun c => kf c H locs ls hP hS hl)
theorem sx_if_gt (hX : sx_C X K cc nL own ret rm l) {x : Int32} {off : Int} {tgt : Nat} (hd : decode cc pc = .ok (.ifCond .gt off, 3)) (ht : (pc : Int) + off = (tgt : Int)) (hp : pc + 3 = pc2) (kt : 0 < x → sx_GA X A nL tgt lv st P) (kf : ¬ 0 < x → sx_GA X A nL pc2 lv st P) : sx_GA X A nL pc lv (.int x :: st) P := by
  subst hp
  intro H locs ls hP hS hl
  exact lv_if_gt hX.1 hX.2.1 hd ht (fun c => kt c H locs ls hP hS hl) (fun c => kf c H locs ls hP hS hl)
theorem sx_if_le (hX : sx_C X K cc nL own ret rm l) {x : Int32} {off : Int} {tgt : Nat} (hd : decode cc pc = .ok (.ifCond .le off, 3)) (ht : (pc : Int) + off = (tgt : Int)) (hp : pc + 3 = pc2) (kt : x ≤ 0 → sx_GA X A nL tgt lv st P) (kf : ¬ x ≤ 0 → sx_GA X A nL pc2 lv st P) : sx_GA X A nL pc lv (.int x :: st) P := by
  subst hp
  intro H locs ls hP hS hl
  exact lv_if_le hX.1 hX.2.1 hd ht (fun c => kt c H locs ls hP hS hl) (fun c => kf c H locs ls hP hS hl)
theorem sx_icmp_eq (hX : sx_C X K cc nL own ret rm l) {x y : Int32} {off : Int} {tgt : Nat} (hd : decode cc pc = .ok (.if_icmp .eq off, 3)) (ht : (pc : Int) + off = (tgt : Int)) (hp : pc + 3 = pc2) (kt : x = y → sx_GA X A nL tgt lv st P) (kf : ¬ x = y → sx_GA X A nL pc2 lv st P) : sx_GA X A nL pc lv (.int y :: .int x :: st) P := by
  subst hp
  intro H locs ls hP hS hl
  exact lv_icmp_eq hX.1 hX.2.1 hd ht (fun c => kt c H locs ls hP hS hl) (fun c => kf c H locs ls hP hS hl)
theorem sx_icmp_ne (hX : sx_C X K cc nL own ret rm l) {x y : Int32} {off : Int} {tgt : Nat} (hd : decode cc pc = .ok (.if_icmp .ne off, 3)) (ht : (pc : Int) + off = (tgt : Int)) (hp : pc + 3 = pc2) (kt : ¬ x = y → sx_GA X A nL tgt lv st P) (kf : x = y → sx_GA X A nL pc2 lv st P) : sx_GA X A nL pc lv (.int y :: .int x :: st) P := by
  subst hp
  intro H locs ls hP hS hl
  exact lv_icmp_ne hX.1 hX.2.1 hd ht (fun c => kt c H locs ls hP hS hl) (fun c => kf c H locs ls hP hS hl)
theorem sx_icmp_lt (hX : sx_C X K cc nL own ret rm l) {x y : Int32} {off : Int} {tgt : Nat} (hd : decode cc pc = .ok (.if_icmp .lt off, 3)) (ht : (pc : Int) + off = (tgt : Int)) (hp : pc + 3 = pc2) (kt : x < y → sx_GA X A nL tgt lv st P) (kf : ¬ x < y → sx_GA X A nL pc2 lv st P) : sx_GA X A nL pc lv (.int y :: .int x :: st) P := by
  subst hp
  intro H locs ls hP hS hl
  exact lv_icmp_lt hX.1 hX.2.1 hd ht (fun c => kt c H locs ls hP hS hl) (fun c => kf c H locs ls hP hS hl)
theorem sx_icmp_ge (hX : sx_C X K cc nL own ret rm l) {x y : Int32} {off : Int} {tgt : Nat} (hd : decode cc pc = .ok (.if_icmp .ge off, 3)) (ht : (pc : Int) + off = (tgt : Int)) (hp : pc + 3 = pc2) (kt : y ≤ x → sx_GA X A nL tgt lv st P) (kf : ¬ y ≤ x → sx_GA X A nL pc2 lv st P) : sx_GA X A nL pc lv (.int y :: .int x :: st) P := by
  subst hp
  intro H locs ls hP hS hl
  exact lv_icmp_ge hX.1 hX.2.1 hd ht (fun c => kt c H locs ls hP hS hl) (fun c => kf c H locs ls hP hS hl)
theorem sx_icmp_gt (hX : sx_C X K cc nL own ret rm l) {x y : Int32} {off : Int} {tgt : Nat} (hd : decode cc pc = .ok (.if_icmp .gt off, 3)) (ht : (pc : Int) + off = (tgt : Int)) (hp : pc + 3 = pc2) (kt : y < x → sx_GA X A nL tgt lv st P) (kf : ¬ y < x → sx_GA X A nL pc2 lv st P) : sx_GA X A nL pc lv (.int y :: .int x :: st) P := by
  subst hp
  intro H locs ls hP hS hl
  exact lv_icmp_gt hX.1 hX.2.1 hd ht (fun c => kt c H locs ls hP hS hl) (fun c => kf c H locs ls hP hS hl)
theorem sx_icmp_le (hX : sx_C X K cc nL own ret rm l) {x y : Int32} {off : Int} {tgt : Nat} (hd : decode cc pc = .ok (.if_icmp .le off, 3)) (ht : (pc : Int) + off = (tgt : Int)) (hp : pc + 3 = pc2) (kt : x ≤ y → sx_GA X A nL tgt lv st P) (kf : ¬ x ≤ y → sx_GA X A nL pc2 lv st P) : sx_GA X A nL pc lv (.int y :: .int x :: st) P := by
  subst hp
  intro H locs ls hP hS hl
  exact lv_icmp_le hX.1 hX.2.1 hd ht (fun c => kt c H locs ls hP hS hl) (fun c => kf c H locs ls hP hS hl)
theorem sx_goto (hX : sx_C X K cc nL own ret rm l) {off : Int} {tgt : Nat} (hd : decode cc pc = .ok (.goto off, 3)) (ht : (pc : Int) + off = (tgt : Int)) (k : sx_GA X A nL tgt lv st P) : sx_GA X A nL pc lv st P := by
  intro H locs ls hP hS hl
  exact lv_goto hX.1 hX.2.1 hd ht (k H locs ls hP hS hl)
theorem sx_sub (lv3 : List (Nat × Value)) (ks : List Nat) (hl3 : lv_pick lv ks = lv3) (k : sx_GA X A nL pc lv3 st P) : sx_GA X A nL pc lv st P := fun H locs ls hP hS hl => k H locs ls hP hS (lv_sub hl ks hl3)
end SXA
