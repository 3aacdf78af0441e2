def minI (x y : Int32) : Int32 := if y < x then y else x
def maxI (x y : Int32) : Int32 := if x < y then y else x
def absF (x : Int32) : Int32 := if 0 ≤ x then x else 0 - x
section RU
variable {L : jL} {st : List Value} {mem : jM} {kk : jK} {Q : jQ} {K : jKt} {nx t : Nat}
theorem jr_0 {F : Nat → jT} {n : Nat} {R : jKt} {pc : Nat} : jrun F [] (n + 1) Q R pc L st mem kk = F pc L st mem kk Q (jrun F [] n Q R) := rfl
theorem jr_1 {F : Nat → jT} {n c : Nat} {R : jKt} {pc : Nat} : jrun F [c] (n + 1) Q R pc L st mem kk = if pc = c then R pc L st mem kk else F pc L st mem kk Q (jrun F [c] n Q R) := by
  show (bif (pc == c || false) then _ else _) = _
  by_cases h : pc = c
  · subst h; simp
  · simp [h]
theorem jr_2 {F : Nat → jT} {n c d : Nat} {R : jKt} {pc : Nat} : jrun F [c, d] (n + 1) Q R pc L st mem kk = if pc = c then R pc L st mem kk else if pc = d then R pc L st mem kk else F pc L st mem kk Q (jrun F [c, d] n Q R) := by
  show (bif (pc == c || (pc == d || false)) then _ else _) = _
  by_cases h : pc = c
  · subst h; simp
  · by_cases h2 : pc = d
    · subst h2; simp [h]
    · simp [h, h2]
theorem j_iconst {v : Int32} : J_iconst v nx L st mem kk Q K = K nx L (.int v :: st) mem kk := rfl
theorem j_lconst {v : Int64} : J_lconst v nx L st mem kk Q K = K nx L (.long v :: st) mem kk := rfl
theorem j_iload0 {x : Int32} : J_iload 0 nx (some (.int x) :: L) st mem kk Q K = K nx (some (.int x) :: L) (.int x :: st) mem kk := rfl
theorem j_aload0 {x : Nat} : J_aload 0 nx (some (.ref x) :: L) st mem kk Q K = K nx (some (.ref x) :: L) (.ref x :: st) mem kk := rfl
theorem j_istore0 {a0 : Option Value} {x : Int32} : J_istore 0 nx (a0 :: L) (.int x :: st) mem kk Q K = K nx (some (.int x) :: L) st mem kk := rfl
theorem j_astore0 {a0 : Option Value} {x : Nat} : J_astore 0 nx (a0 :: L) (.ref x :: st) mem kk Q K = K nx (some (.ref x) :: L) st mem kk := rfl
theorem j_iinc0 {x n : Int32} : J_iinc 0 n nx (some (.int x) :: L) st mem kk Q K = K nx (some (.int (x + n)) :: L) st mem kk := rfl
theorem j_iload1 {a0 : Option Value} {x : Int32} : J_iload 1 nx (a0 :: some (.int x) :: L) st mem kk Q K = K nx (a0 :: some (.int x) :: L) (.int x :: st) mem kk := rfl
theorem j_aload1 {a0 : Option Value} {x : Nat} : J_aload 1 nx (a0 :: some (.ref x) :: L) st mem kk Q K = K nx (a0 :: some (.ref x) :: L) (.ref x :: st) mem kk := rfl
theorem j_istore1 {a0 a1 : Option Value} {x : Int32} : J_istore 1 nx (a0 :: a1 :: L) (.int x :: st) mem kk Q K = K nx (a0 :: some (.int x) :: L) st mem kk := rfl
theorem j_astore1 {a0 a1 : Option Value} {x : Nat} : J_astore 1 nx (a0 :: a1 :: L) (.ref x :: st) mem kk Q K = K nx (a0 :: some (.ref x) :: L) st mem kk := rfl
theorem j_iinc1 {a0 : Option Value} {x n : Int32} : J_iinc 1 n nx (a0 :: some (.int x) :: L) st mem kk Q K = K nx (a0 :: some (.int (x + n)) :: L) st mem kk := rfl
theorem j_iload2 {a0 a1 : Option Value} {x : Int32} : J_iload 2 nx (a0 :: a1 :: some (.int x) :: L) st mem kk Q K = K nx (a0 :: a1 :: some (.int x) :: L) (.int x :: st) mem kk := rfl
theorem j_aload2 {a0 a1 : Option Value} {x : Nat} : J_aload 2 nx (a0 :: a1 :: some (.ref x) :: L) st mem kk Q K = K nx (a0 :: a1 :: some (.ref x) :: L) (.ref x :: st) mem kk := rfl
theorem j_istore2 {a0 a1 a2 : Option Value} {x : Int32} : J_istore 2 nx (a0 :: a1 :: a2 :: L) (.int x :: st) mem kk Q K = K nx (a0 :: a1 :: some (.int x) :: L) st mem kk := rfl
theorem j_astore2 {a0 a1 a2 : Option Value} {x : Nat} : J_astore 2 nx (a0 :: a1 :: a2 :: L) (.ref x :: st) mem kk Q K = K nx (a0 :: a1 :: some (.ref x) :: L) st mem kk := rfl
theorem j_iinc2 {a0 a1 : Option Value} {x n : Int32} : J_iinc 2 n nx (a0 :: a1 :: some (.int x) :: L) st mem kk Q K = K nx (a0 :: a1 :: some (.int (x + n)) :: L) st mem kk := rfl
theorem j_iload3 {a0 a1 a2 : Option Value} {x : Int32} : J_iload 3 nx (a0 :: a1 :: a2 :: some (.int x) :: L) st mem kk Q K = K nx (a0 :: a1 :: a2 :: some (.int x) :: L) (.int x :: st) mem kk := rfl
theorem j_aload3 {a0 a1 a2 : Option Value} {x : Nat} : J_aload 3 nx (a0 :: a1 :: a2 :: some (.ref x) :: L) st mem kk Q K = K nx (a0 :: a1 :: a2 :: some (.ref x) :: L) (.ref x :: st) mem kk := rfl
theorem j_istore3 {a0 a1 a2 a3 : Option Value} {x : Int32} : J_istore 3 nx (a0 :: a1 :: a2 :: a3 :: L) (.int x :: st) mem kk Q K = K nx (a0 :: a1 :: a2 :: some (.int x) :: L) st mem kk := rfl
theorem j_astore3 {a0 a1 a2 a3 : Option Value} {x : Nat} : J_astore 3 nx (a0 :: a1 :: a2 :: a3 :: L) (.ref x :: st) mem kk Q K = K nx (a0 :: a1 :: a2 :: some (.ref x) :: L) st mem kk := rfl
theorem j_iinc3 {a0 a1 a2 : Option Value} {x n : Int32} : J_iinc 3 n nx (a0 :: a1 :: a2 :: some (.int x) :: L) st mem kk Q K = K nx (a0 :: a1 :: a2 :: some (.int (x + n)) :: L) st mem kk := rfl
theorem j_iload4 {a0 a1 a2 a3 : Option Value} {x : Int32} : J_iload 4 nx (a0 :: a1 :: a2 :: a3 :: some (.int x) :: L) st mem kk Q K = K nx (a0 :: a1 :: a2 :: a3 :: some (.int x) :: L) (.int x :: st) mem kk := rfl
theorem j_aload4 {a0 a1 a2 a3 : Option Value} {x : Nat} : J_aload 4 nx (a0 :: a1 :: a2 :: a3 :: some (.ref x) :: L) st mem kk Q K = K nx (a0 :: a1 :: a2 :: a3 :: some (.ref x) :: L) (.ref x :: st) mem kk := rfl
theorem j_istore4 {a0 a1 a2 a3 a4 : Option Value} {x : Int32} : J_istore 4 nx (a0 :: a1 :: a2 :: a3 :: a4 :: L) (.int x :: st) mem kk Q K = K nx (a0 :: a1 :: a2 :: a3 :: some (.int x) :: L) st mem kk := rfl
theorem j_astore4 {a0 a1 a2 a3 a4 : Option Value} {x : Nat} : J_astore 4 nx (a0 :: a1 :: a2 :: a3 :: a4 :: L) (.ref x :: st) mem kk Q K = K nx (a0 :: a1 :: a2 :: a3 :: some (.ref x) :: L) st mem kk := rfl
theorem j_iinc4 {a0 a1 a2 a3 : Option Value} {x n : Int32} : J_iinc 4 n nx (a0 :: a1 :: a2 :: a3 :: some (.int x) :: L) st mem kk Q K = K nx (a0 :: a1 :: a2 :: a3 :: some (.int (x + n)) :: L) st mem kk := rfl
theorem j_iload5 {a0 a1 a2 a3 a4 : Option Value} {x : Int32} : J_iload 5 nx (a0 :: a1 :: a2 :: a3 :: a4 :: some (.int x) :: L) st mem kk Q K = K nx (a0 :: a1 :: a2 :: a3 :: a4 :: some (.int x) :: L) (.int x :: st) mem kk := rfl
theorem j_aload5 {a0 a1 a2 a3 a4 : Option Value} {x : Nat} : J_aload 5 nx (a0 :: a1 :: a2 :: a3 :: a4 :: some (.ref x) :: L) st mem kk Q K = K nx (a0 :: a1 :: a2 :: a3 :: a4 :: some (.ref x) :: L) (.ref x :: st) mem kk := rfl
theorem j_istore5 {a0 a1 a2 a3 a4 a5 : Option Value} {x : Int32} : J_istore 5 nx (a0 :: a1 :: a2 :: a3 :: a4 :: a5 :: L) (.int x :: st) mem kk Q K = K nx (a0 :: a1 :: a2 :: a3 :: a4 :: some (.int x) :: L) st mem kk := rfl
theorem j_astore5 {a0 a1 a2 a3 a4 a5 : Option Value} {x : Nat} : J_astore 5 nx (a0 :: a1 :: a2 :: a3 :: a4 :: a5 :: L) (.ref x :: st) mem kk Q K = K nx (a0 :: a1 :: a2 :: a3 :: a4 :: some (.ref x) :: L) st mem kk := rfl
theorem j_iinc5 {a0 a1 a2 a3 a4 : Option Value} {x n : Int32} : J_iinc 5 n nx (a0 :: a1 :: a2 :: a3 :: a4 :: some (.int x) :: L) st mem kk Q K = K nx (a0 :: a1 :: a2 :: a3 :: a4 :: some (.int (x + n)) :: L) st mem kk := rfl
theorem j_iload6 {a0 a1 a2 a3 a4 a5 : Option Value} {x : Int32} : J_iload 6 nx (a0 :: a1 :: a2 :: a3 :: a4 :: a5 :: some (.int x) :: L) st mem kk Q K = K nx (a0 :: a1 :: a2 :: a3 :: a4 :: a5 :: some (.int x) :: L) (.int x :: st) mem kk := rfl
theorem j_aload6 {a0 a1 a2 a3 a4 a5 : Option Value} {x : Nat} : J_aload 6 nx (a0 :: a1 :: a2 :: a3 :: a4 :: a5 :: some (.ref x) :: L) st mem kk Q K = K nx (a0 :: a1 :: a2 :: a3 :: a4 :: a5 :: some (.ref x) :: L) (.ref x :: st) mem kk := rfl
theorem j_istore6 {a0 a1 a2 a3 a4 a5 a6 : Option Value} {x : Int32} : J_istore 6 nx (a0 :: a1 :: a2 :: a3 :: a4 :: a5 :: a6 :: L) (.int x :: st) mem kk Q K = K nx (a0 :: a1 :: a2 :: a3 :: a4 :: a5 :: some (.int x) :: L) st mem kk := rfl
theorem j_astore6 {a0 a1 a2 a3 a4 a5 a6 : Option Value} {x : Nat} : J_astore 6 nx (a0 :: a1 :: a2 :: a3 :: a4 :: a5 :: a6 :: L) (.ref x :: st) mem kk Q K = K nx (a0 :: a1 :: a2 :: a3 :: a4 :: a5 :: some (.ref x) :: L) st mem kk := rfl
theorem j_iinc6 {a0 a1 a2 a3 a4 a5 : Option Value} {x n : Int32} : J_iinc 6 n nx (a0 :: a1 :: a2 :: a3 :: a4 :: a5 :: some (.int x) :: L) st mem kk Q K = K nx (a0 :: a1 :: a2 :: a3 :: a4 :: a5 :: some (.int (x + n)) :: L) st mem kk := rfl
theorem j_iload7 {a0 a1 a2 a3 a4 a5 a6 : Option Value} {x : Int32} : J_iload 7 nx (a0 :: a1 :: a2 :: a3 :: a4 :: a5 :: a6 :: some (.int x) :: L) st mem kk Q K = K nx (a0 :: a1 :: a2 :: a3 :: a4 :: a5 :: a6 :: some (.int x) :: L) (.int x :: st) mem kk := rfl
theorem j_aload7 {a0 a1 a2 a3 a4 a5 a6 : Option Value} {x : Nat} : J_aload 7 nx (a0 :: a1 :: a2 :: a3 :: a4 :: a5 :: a6 :: some (.ref x) :: L) st mem kk Q K = K nx (a0 :: a1 :: a2 :: a3 :: a4 :: a5 :: a6 :: some (.ref x) :: L) (.ref x :: st) mem kk := rfl
theorem j_istore7 {a0 a1 a2 a3 a4 a5 a6 a7 : Option Value} {x : Int32} : J_istore 7 nx (a0 :: a1 :: a2 :: a3 :: a4 :: a5 :: a6 :: a7 :: L) (.int x :: st) mem kk Q K = K nx (a0 :: a1 :: a2 :: a3 :: a4 :: a5 :: a6 :: some (.int x) :: L) st mem kk := rfl
theorem j_astore7 {a0 a1 a2 a3 a4 a5 a6 a7 : Option Value} {x : Nat} : J_astore 7 nx (a0 :: a1 :: a2 :: a3 :: a4 :: a5 :: a6 :: a7 :: L) (.ref x :: st) mem kk Q K = K nx (a0 :: a1 :: a2 :: a3 :: a4 :: a5 :: a6 :: some (.ref x) :: L) st mem kk := rfl
theorem j_iinc7 {a0 a1 a2 a3 a4 a5 a6 : Option Value} {x n : Int32} : J_iinc 7 n nx (a0 :: a1 :: a2 :: a3 :: a4 :: a5 :: a6 :: some (.int x) :: L) st mem kk Q K = K nx (a0 :: a1 :: a2 :: a3 :: a4 :: a5 :: a6 :: some (.int (x + n)) :: L) st mem kk := rfl
theorem j_iload8 {a0 a1 a2 a3 a4 a5 a6 a7 : Option Value} {x : Int32} : J_iload 8 nx (a0 :: a1 :: a2 :: a3 :: a4 :: a5 :: a6 :: a7 :: some (.int x) :: L) st mem kk Q K = K nx (a0 :: a1 :: a2 :: a3 :: a4 :: a5 :: a6 :: a7 :: some (.int x) :: L) (.int x :: st) mem kk := rfl
theorem j_aload8 {a0 a1 a2 a3 a4 a5 a6 a7 : Option Value} {x : Nat} : J_aload 8 nx (a0 :: a1 :: a2 :: a3 :: a4 :: a5 :: a6 :: a7 :: some (.ref x) :: L) st mem kk Q K = K nx (a0 :: a1 :: a2 :: a3 :: a4 :: a5 :: a6 :: a7 :: some (.ref x) :: L) (.ref x :: st) mem kk := rfl
theorem j_istore8 {a0 a1 a2 a3 a4 a5 a6 a7 a8 : Option Value} {x : Int32} : J_istore 8 nx (a0 :: a1 :: a2 :: a3 :: a4 :: a5 :: a6 :: a7 :: a8 :: L) (.int x :: st) mem kk Q K = K nx (a0 :: a1 :: a2 :: a3 :: a4 :: a5 :: a6 :: a7 :: some (.int x) :: L) st mem kk := rfl
theorem j_astore8 {a0 a1 a2 a3 a4 a5 a6 a7 a8 : Option Value} {x : Nat} : J_astore 8 nx (a0 :: a1 :: a2 :: a3 :: a4 :: a5 :: a6 :: a7 :: a8 :: L) (.ref x :: st) mem kk Q K = K nx (a0 :: a1 :: a2 :: a3 :: a4 :: a5 :: a6 :: a7 :: some (.ref x) :: L) st mem kk := rfl
theorem j_iinc8 {a0 a1 a2 a3 a4 a5 a6 a7 : Option Value} {x n : Int32} : J_iinc 8 n nx (a0 :: a1 :: a2 :: a3 :: a4 :: a5 :: a6 :: a7 :: some (.int x) :: L) st mem kk Q K = K nx (a0 :: a1 :: a2 :: a3 :: a4 :: a5 :: a6 :: a7 :: some (.int (x + n)) :: L) st mem kk := rfl
theorem j_iadd {x y : Int32} : J_iadd nx L (.int y :: .int x :: st) mem kk Q K = K nx L (.int (x + y) :: st) mem kk := rfl
theorem j_isub {x y : Int32} : J_isub nx L (.int y :: .int x :: st) mem kk Q K = K nx L (.int (x - y) :: st) mem kk := rfl
theorem j_imul {x y : Int32} : J_imul nx L (.int y :: .int x :: st) mem kk Q K = K nx L (.int (x * y) :: st) mem kk := rfl
theorem j_iand {x y : Int32} : J_iand nx L (.int y :: .int x :: st) mem kk Q K = K nx L (.int (x &&& y) :: st) mem kk := rfl
theorem j_ior {x y : Int32} : J_ior nx L (.int y :: .int x :: st) mem kk Q K = K nx L (.int (x ||| y) :: st) mem kk := rfl
theorem j_ixor {x y : Int32} : J_ixor nx L (.int y :: .int x :: st) mem kk Q K = K nx L (.int (x ^^^ y) :: st) mem kk := rfl
theorem j_ishl {x y : Int32} : J_ishl nx L (.int y :: .int x :: st) mem kk Q K = K nx L (.int (x <<< (y &&& 31)) :: st) mem kk := rfl
theorem j_ishr {x y : Int32} : J_ishr nx L (.int y :: .int x :: st) mem kk Q K = K nx L (.int (x >>> (y &&& 31)) :: st) mem kk := rfl
theorem j_iushr {x y : Int32} : J_iushr nx L (.int y :: .int x :: st) mem kk Q K = K nx L (.int ((x.toUInt32 >>> (y.toUInt32 &&& Int32.toUInt32 31)).toInt32) :: st) mem kk := rfl
theorem j_idiv {x y : Int32} : J_idiv nx L (.int y :: .int x :: st) mem kk Q K = (¬ y = 0 ∧ K nx L (.int (x / y) :: st) mem kk) := rfl
theorem j_irem {x y : Int32} : J_irem nx L (.int y :: .int x :: st) mem kk Q K = (¬ y = 0 ∧ K nx L (.int (x - x / y * y) :: st) mem kk) := rfl
theorem j_ineg {x : Int32} : J_ineg nx L (.int x :: st) mem kk Q K = K nx L (.int (-x) :: st) mem kk := rfl
theorem j_ladd {x y : Int64} : J_ladd nx L (.long y :: .long x :: st) mem kk Q K = K nx L (.long (x + y) :: st) mem kk := rfl
theorem j_lmul {x y : Int64} : J_lmul nx L (.long y :: .long x :: st) mem kk Q K = K nx L (.long (x * y) :: st) mem kk := rfl
theorem j_land {x y : Int64} : J_land nx L (.long y :: .long x :: st) mem kk Q K = K nx L (.long (x &&& y) :: st) mem kk := rfl
theorem j_lor {x y : Int64} : J_lor nx L (.long y :: .long x :: st) mem kk Q K = K nx L (.long (x ||| y) :: st) mem kk := rfl
theorem j_lcmp {x y : Int64} : J_lcmp nx L (.long y :: .long x :: st) mem kk Q K = K nx L (.int (lg_cmp x y) :: st) mem kk := rfl
theorem j_lushr {x : Int64} {y : Int32} : J_lushr nx L (.int y :: .long x :: st) mem kk Q K = K nx L (.long ((x.toUInt64 >>> (y.toInt64.toUInt64 &&& Int64.toUInt64 63)).toInt64) :: st) mem kk := rfl
theorem j_lshl {x : Int64} {y : Int32} : J_lshl nx L (.int y :: .long x :: st) mem kk Q K = K nx L (.long (x <<< (y.toInt64 &&& 63)) :: st) mem kk := rfl
theorem j_i2l {x : Int32} : J_i2l nx L (.int x :: st) mem kk Q K = K nx L (.long x.toInt64 :: st) mem kk := rfl
theorem j_l2i {x : Int64} : J_l2i nx L (.long x :: st) mem kk Q K = K nx L (.int x.toInt32 :: st) mem kk := rfl
theorem pr_t {a b : Prop} (h : a) : (a ∧ b) = b := propext ⟨fun q => q.2, fun q => ⟨h, q⟩⟩
theorem j_dupI {x : Int32} : J_dup nx L (.int x :: st) mem kk Q K = K nx L (.int x :: .int x :: st) mem kk := pr_t rfl
theorem j_dupR {x : Nat} : J_dup nx L (.ref x :: st) mem kk Q K = K nx L (.ref x :: .ref x :: st) mem kk := pr_t rfl
theorem j_popI {x : Int32} : J_pop nx L (.int x :: st) mem kk Q K = K nx L st mem kk := pr_t rfl
theorem j_dup2 {x : Int32} {a : Nat} : J_dup2 nx L (.int x :: .ref a :: st) mem kk Q K = K nx L (.int x :: .ref a :: .int x :: .ref a :: st) mem kk := pr_t ⟨rfl, rfl⟩
theorem j_ifeq {x : Int32} : J_ifeq t nx L (.int x :: st) mem kk Q K = ((x = 0 → K t L st mem kk) ∧ (¬ x = 0 → K nx L st mem kk)) := rfl
theorem j_iceq {x y : Int32} : J_iceq t nx L (.int y :: .int x :: st) mem kk Q K = ((x = y → K t L st mem kk) ∧ (¬ x = y → K nx L st mem kk)) := rfl
theorem j_ifne {x : Int32} : J_ifne t nx L (.int x :: st) mem kk Q K = ((¬ x = 0 → K t L st mem kk) ∧ (x = 0 → K nx L st mem kk)) := rfl
theorem j_icne {x y : Int32} : J_icne t nx L (.int y :: .int x :: st) mem kk Q K = ((¬ x = y → K t L st mem kk) ∧ (x = y → K nx L st mem kk)) := rfl
theorem j_iflt {x : Int32} : J_iflt t nx L (.int x :: st) mem kk Q K = ((x < 0 → K t L st mem kk) ∧ (¬ x < 0 → K nx L st mem kk)) := rfl
theorem j_iclt {x y : Int32} : J_iclt t nx L (.int y :: .int x :: st) mem kk Q K = ((x < y → K t L st mem kk) ∧ (¬ x < y → K nx L st mem kk)) := rfl
theorem j_ifge {x : Int32} : J_ifge t nx L (.int x :: st) mem kk Q K = ((0 ≤ x → K t L st mem kk) ∧ (¬ 0 ≤ x → K nx L st mem kk)) := rfl
theorem j_icge {x y : Int32} : J_icge t nx L (.int y :: .int x :: st) mem kk Q K = ((y ≤ x → K t L st mem kk) ∧ (¬ y ≤ x → K nx L st mem kk)) := rfl
theorem j_ifgt {x : Int32} : J_ifgt t nx L (.int x :: st) mem kk Q K = ((0 < x → K t L st mem kk) ∧ (¬ 0 < x → K nx L st mem kk)) := rfl
theorem j_icgt {x y : Int32} : J_icgt t nx L (.int y :: .int x :: st) mem kk Q K = ((y < x → K t L st mem kk) ∧ (¬ y < x → K nx L st mem kk)) := rfl
theorem j_ifle {x : Int32} : J_ifle t nx L (.int x :: st) mem kk Q K = ((x ≤ 0 → K t L st mem kk) ∧ (¬ x ≤ 0 → K nx L st mem kk)) := rfl
theorem j_icle {x y : Int32} : J_icle t nx L (.int y :: .int x :: st) mem kk Q K = ((x ≤ y → K t L st mem kk) ∧ (¬ x ≤ y → K nx L st mem kk)) := rfl
theorem j_goto : J_goto t L st mem kk Q K = K t L st mem kk := rfl
theorem j_tsw {cs : List (Int32 × Nat)} {d : Nat} {x : Int32} : J_tsw cs d L (.int x :: st) mem kk Q K = jsw x cs (fun t => K t L st mem kk) d := rfl
theorem j_sw0 {x : Int32} {G : Nat → Prop} {d : Nat} : jsw x [] G d = G d := rfl
theorem j_sw1 {x c : Int32} {cs : List (Int32 × Nat)} {G : Nat → Prop} {d : Nat} : jsw x ((c, t) :: cs) G d = ((x = c → G t) ∧ (¬ x = c → jsw x cs G d)) := rfl
theorem j_ireturn {x : Int32} {nb mc ms : Nat} : J_ireturn mc ms L [.int x] mem (nb, mc, ms) Q K = Q (some (.int x)) mem := pr_t ⟨rfl, rfl⟩
theorem j_zreturn {x : Int32} {nb mc ms : Nat} : J_zreturn mc ms L [.int x] mem (nb, mc, ms) Q K = ((x = 0 ∨ x = 1) ∧ Q (some (.int x)) mem) := pr_t ⟨rfl, rfl⟩
theorem j_lreturn {x : Int64} {nb mc ms : Nat} : J_lreturn mc ms L [.long x] mem (nb, mc, ms) Q K = Q (some (.long x)) mem := pr_t ⟨rfl, rfl⟩
theorem j_return {nb mc ms : Nat} : J_return mc ms L [] mem (nb, mc, ms) Q K = Q none mem := pr_t ⟨rfl, rfl⟩
theorem j_getfield {ci k a : Nat} : J_getfield ci k nx L (.ref a :: st) mem kk Q K = jfld mem a ci k fun v => K nx L (v :: st) mem kk := rfl
theorem j_putI {ci k a : Nat} {x : Int32} : J_putI ci k nx L (.int x :: .ref a :: st) mem kk Q K = jput mem a ci k (.int x) fun mem => K nx L st mem kk := rfl
theorem j_putJ {ci k a : Nat} {x : Int64} : J_putJ ci k nx L (.long x :: .ref a :: st) mem kk Q K = jput mem a ci k (.long x) fun mem => K nx L st mem kk := rfl
theorem j_putR {ci k a x : Nat} : J_putR ci k nx L (.ref x :: .ref a :: st) mem kk Q K = jput mem a ci k (.ref x) fun mem => K nx L st mem kk := rfl
theorem j_iaload {a : Nat} {i : Int32} : J_iaload nx L (.int i :: .ref a :: st) mem kk Q K = jald mem a false i fun x => K nx L (.int x :: st) mem kk := rfl
theorem j_baload {a : Nat} {i : Int32} : J_baload nx L (.int i :: .ref a :: st) mem kk Q K = jald mem a true i fun x => K nx L (.int x :: st) mem kk := rfl
theorem j_iastore {a : Nat} {i x : Int32} : J_iastore nx L (.int x :: .int i :: .ref a :: st) mem kk Q K = jast mem a false i x fun mem => K nx L st mem kk := rfl
theorem j_bastore {a : Nat} {i x : Int32} : J_bastore nx L (.int x :: .int i :: .ref a :: st) mem kk Q K = ((x = 0 ∨ x = 1) ∧ jast mem a true i x fun mem => K nx L st mem kk) := rfl
def jq (o : Option Nat) (k : Nat → Prop) : Prop := match o with
  | some t => k t
  | none => False
theorem j_aaload {a : Nat} {i : Int32} : J_aaload nx L (.int i :: .ref a :: st) mem kk Q K = jaldq mem a i fun o => jq o fun t => K nx L (.ref t :: st) mem kk := by
  show jaldq mem a i (fun o => match o with | some t => K nx L (.ref t :: st) mem kk | none => False) = _
  refine congrArg (jaldq mem a i) (funext fun o => ?_)
  cases o <;> rfl
theorem j_q {t : Nat} {k : Nat → Prop} : jq (some t) k = k t := rfl
theorem j_aastore {a v : Nat} {i : Int32} : J_aastore nx L (.ref v :: .int i :: .ref a :: st) mem kk Q K = (jrcv mem 4 [.ref v] ∧ jastq mem a i v fun mem => K nx L st mem kk) := rfl
theorem j_acopy {a0 a : Nat} {sp dp n : Int32} : J_acopy nx L (.int n :: .int dp :: .ref a :: .int sp :: .ref a0 :: st) mem kk Q K = (jshort st = true ∧ jcopy mem a0 a sp dp n fun mem => K nx L st mem kk) := rfl
theorem j_mmin {x y : Int32} : J_mmin nx L (.int y :: .int x :: st) mem kk Q K = (jshort st = true ∧ K nx L (.int (minI x y) :: st) mem kk) := rfl
theorem j_mmax {x y : Int32} : J_mmax nx L (.int y :: .int x :: st) mem kk Q K = (jshort st = true ∧ K nx L (.int (maxI x y) :: st) mem kk) := rfl
theorem j_mabs {x : Int32} : J_mabs nx L (.int x :: st) mem kk Q K = (jshort st = true ∧ K nx L (.int (absF x) :: st) mem kk) := rfl
theorem j_objinit {x : Nat} : J_objinit nx L (.ref x :: st) mem kk Q K = (jshort st = true ∧ K nx L st mem kk) := rfl
theorem j_new {ci N : Nat} {ty : Nat → FieldType} {Mc Ms nb k n : Nat} : J_new ci N ty Mc Ms nx L st mem (nb, k, n) Q K = ((mem (nb + k) = none ∧ nb + k < 1000 ∧ k + 1 ≤ Mc ∧ n + N ≤ Ms) ∧ K nx L (.ref (nb + k) :: st) (jup mem (nb + k) (.inr (.inr (ci, jdf ty)))) (nb, k + 1, n + N)) := rfl
theorem j_newI {b : Bool} {N Mc Ms nb k n : Nat} {x : Int32} : J_newI b N Mc Ms nx L (.int x :: st) mem (nb, k, n) Q K = ((x = nI N ∧ mem (nb + k) = none ∧ nb + k < 1000 ∧ k + 1 ≤ Mc ∧ n + N ≤ Ms) ∧ K nx L (.ref (nb + k) :: st) (jup mem (nb + k) (.inl (b, N, fun _ => 0))) (nb, k + 1, n + N)) := rfl
theorem j_newQ {N Mc Ms nb k n : Nat} {x : Int32} : J_newQ N Mc Ms nx L (.int x :: st) mem (nb, k, n) Q K = ((x = nI N ∧ mem (nb + k) = none ∧ nb + k < 1000 ∧ k + 1 ≤ Mc ∧ n + N ≤ Ms) ∧ K nx L (.ref (nb + k) :: st) (jup mem (nb + k) (.inr (.inl (N, fun _ => none)))) (nb, k + 1, n + N)) := rfl
theorem j_sld {Lx a : Nat} {xs : Nat → Int32} {i : Int32} : J_sld Lx xs nx L (.int i :: .ref a :: st) mem kk Q K = (a = 1000 ∧ vp_in i Lx ∧ K nx L (.int (xs i.toNatClampNeg) :: st) mem kk) := rfl
theorem j_slen {Lx a : Nat} : J_slen Lx nx L (.ref a :: st) mem kk Q K = (a = 1000 ∧ K nx L (.int (nI Lx) :: st) mem kk) := rfl
theorem j_callV0 {ci : Nat} {S : jSp} {v0 : Value} : J_callV ci S 0 nx L (v0 :: st) mem kk Q K = (jrcv mem ci [v0] ∧ jshort st = true ∧ S (kk.1 + kk.2.1) [v0] mem fun v mem => K nx L (jpush v st) mem kk) := rfl
theorem j_callI0 {ci mc ms Mc Ms : Nat} {S : jSp} {v0 : Value} : J_callI ci S mc ms Mc Ms 0 nx L (v0 :: st) mem kk Q K = (jrcv mem ci [v0] ∧ jshort st = true ∧ (kk.2.1 + mc ≤ Mc ∧ kk.2.2 + ms ≤ Ms) ∧ S (kk.1 + kk.2.1) [v0] mem fun v mem => K nx L (jpush v st) mem (kk.1, kk.2.1 + mc, kk.2.2 + ms)) := rfl
theorem j_callS0 {S : jSp} : J_callS S 0 nx L (st) mem kk Q K = (jshort st = true ∧ S (kk.1 + kk.2.1) [] mem fun v mem => K nx L (jpush v st) mem kk) := rfl
theorem j_callV1 {ci : Nat} {S : jSp} {v0 v1 : Value} : J_callV ci S 1 nx L (v1 :: v0 :: st) mem kk Q K = (jrcv mem ci [v0, v1] ∧ jshort st = true ∧ S (kk.1 + kk.2.1) [v0, v1] mem fun v mem => K nx L (jpush v st) mem kk) := rfl
theorem j_callI1 {ci mc ms Mc Ms : Nat} {S : jSp} {v0 v1 : Value} : J_callI ci S mc ms Mc Ms 1 nx L (v1 :: v0 :: st) mem kk Q K = (jrcv mem ci [v0, v1] ∧ jshort st = true ∧ (kk.2.1 + mc ≤ Mc ∧ kk.2.2 + ms ≤ Ms) ∧ S (kk.1 + kk.2.1) [v0, v1] mem fun v mem => K nx L (jpush v st) mem (kk.1, kk.2.1 + mc, kk.2.2 + ms)) := rfl
theorem j_callS1 {S : jSp} {v0 : Value} : J_callS S 1 nx L (v0 :: st) mem kk Q K = (jshort st = true ∧ S (kk.1 + kk.2.1) [v0] mem fun v mem => K nx L (jpush v st) mem kk) := rfl
theorem j_callV2 {ci : Nat} {S : jSp} {v0 v1 v2 : Value} : J_callV ci S 2 nx L (v2 :: v1 :: v0 :: st) mem kk Q K = (jrcv mem ci [v0, v1, v2] ∧ jshort st = true ∧ S (kk.1 + kk.2.1) [v0, v1, v2] mem fun v mem => K nx L (jpush v st) mem kk) := rfl
theorem j_callI2 {ci mc ms Mc Ms : Nat} {S : jSp} {v0 v1 v2 : Value} : J_callI ci S mc ms Mc Ms 2 nx L (v2 :: v1 :: v0 :: st) mem kk Q K = (jrcv mem ci [v0, v1, v2] ∧ jshort st = true ∧ (kk.2.1 + mc ≤ Mc ∧ kk.2.2 + ms ≤ Ms) ∧ S (kk.1 + kk.2.1) [v0, v1, v2] mem fun v mem => K nx L (jpush v st) mem (kk.1, kk.2.1 + mc, kk.2.2 + ms)) := rfl
theorem j_callS2 {S : jSp} {v0 v1 : Value} : J_callS S 2 nx L (v1 :: v0 :: st) mem kk Q K = (jshort st = true ∧ S (kk.1 + kk.2.1) [v0, v1] mem fun v mem => K nx L (jpush v st) mem kk) := rfl
theorem j_callV3 {ci : Nat} {S : jSp} {v0 v1 v2 v3 : Value} : J_callV ci S 3 nx L (v3 :: v2 :: v1 :: v0 :: st) mem kk Q K = (jrcv mem ci [v0, v1, v2, v3] ∧ jshort st = true ∧ S (kk.1 + kk.2.1) [v0, v1, v2, v3] mem fun v mem => K nx L (jpush v st) mem kk) := rfl
theorem j_callS3 {S : jSp} {v0 v1 v2 : Value} : J_callS S 3 nx L (v2 :: v1 :: v0 :: st) mem kk Q K = (jshort st = true ∧ S (kk.1 + kk.2.1) [v0, v1, v2] mem fun v mem => K nx L (jpush v st) mem kk) := rfl
theorem j_callV4 {ci : Nat} {S : jSp} {v0 v1 v2 v3 v4 : Value} : J_callV ci S 4 nx L (v4 :: v3 :: v2 :: v1 :: v0 :: st) mem kk Q K = (jrcv mem ci [v0, v1, v2, v3, v4] ∧ jshort st = true ∧ S (kk.1 + kk.2.1) [v0, v1, v2, v3, v4] mem fun v mem => K nx L (jpush v st) mem kk) := rfl
theorem j_callS4 {S : jSp} {v0 v1 v2 v3 : Value} : J_callS S 4 nx L (v3 :: v2 :: v1 :: v0 :: st) mem kk Q K = (jshort st = true ∧ S (kk.1 + kk.2.1) [v0, v1, v2, v3] mem fun v mem => K nx L (jpush v st) mem kk) := rfl
theorem j_callV5 {ci : Nat} {S : jSp} {v0 v1 v2 v3 v4 v5 : Value} : J_callV ci S 5 nx L (v5 :: v4 :: v3 :: v2 :: v1 :: v0 :: st) mem kk Q K = (jrcv mem ci [v0, v1, v2, v3, v4, v5] ∧ jshort st = true ∧ S (kk.1 + kk.2.1) [v0, v1, v2, v3, v4, v5] mem fun v mem => K nx L (jpush v st) mem kk) := rfl
theorem j_callS5 {S : jSp} {v0 v1 v2 v3 v4 : Value} : J_callS S 5 nx L (v4 :: v3 :: v2 :: v1 :: v0 :: st) mem kk Q K = (jshort st = true ∧ S (kk.1 + kk.2.1) [v0, v1, v2, v3, v4] mem fun v mem => K nx L (jpush v st) mem kk) := rfl
theorem j_pushS {v : Value} : jpush (some v) st = v :: st := rfl
theorem j_pushN : jpush none st = st := rfl
theorem j_sh0 : (jshort [] = true) = True := eq_self true
theorem j_sh1 {v0 : Value} : (jshort [v0] = true) = True := eq_self true
theorem j_sh2 {v0 v1 : Value} : (jshort [v0, v1] = true) = True := eq_self true
theorem j_sh3 {v0 v1 v2 : Value} : (jshort [v0, v1, v2] = true) = True := eq_self true
theorem j_sh4 {v0 v1 v2 v3 : Value} : (jshort [v0, v1, v2, v3] = true) = True := eq_self true
end RU
theorem i32_10 : ((1 : Int32) = 0) = False := by decide
theorem ne4 : ((4 : Int32) = 0) = False := by decide
theorem ne7 : ((7 : Int32) = 0) = False := by decide
theorem ne10 : ((10 : Int32) = 0) = False := by decide
theorem ne14 : ((14 : Int32) = 0) = False := by decide
theorem ne100 : ((100 : Int32) = 0) = False := by decide
theorem ne1000 : ((1000 : Int32) = 0) = False := by decide
theorem ne9973 : ((9973 : Int32) = 0) = False := by decide
theorem i32_01 : ((0 : Int32) = 1) = False := by decide
