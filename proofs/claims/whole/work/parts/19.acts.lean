/-! acts on a state -/
def okPost (C : Nat → Nat → Int32) (p : Int32) : Prop := 0 ≤ p ∧ p < C 3 2
def okCar (C : Nat → Nat → Int32) (c : Int32) : Prop := 0 ≤ c ∧ c < C 3 3
theorem s_okPost {nb d : Nat} {C : Nat → Nat → Int32} {z : Nat → Int64} {p : Int32} {Q : jQ} (h : jD d) : S_X3_hasPost nb [.ref 3, .int p] (memS d C z) Q = Q (some (.int (zb (okPost C p)))) (memS d C z) := s_X3_hasPost h
theorem s_okCar {nb d : Nat} {C : Nat → Nat → Int32} {z : Nat → Int64} {p : Int32} {Q : jQ} (h : jD d) : S_X3_hasCar nb [.ref 3, .int p] (memS d C z) Q = Q (some (.int (zb (okCar C p)))) (memS d C z) := s_X3_hasCar h
theorem pick_s {α : Sort _} {c : Prop} {a : α} : pick c a a = a := by
  by_cases h : c
  · rw [pick_t h]
  · rw [pick_f h]
def F_J6_bitCount_0f7a4_0 : Nat → jT := fun pc => (bif Nat.blt pc 7 then (bif Nat.blt pc 2 then (bif Nat.blt pc 1 then (bif Nat.beq pc 0 then J_iload 0 1 else jbad) else (bif Nat.beq pc 1 then J_iload 0 2 else jbad)) else (bif Nat.blt pc 3 then (bif Nat.beq pc 2 then J_iconst 1 3 else jbad) else (bif Nat.blt pc 4 then (bif Nat.beq pc 3 then J_iushr 4 else jbad) else (bif Nat.beq pc 4 then J_iconst 1431655765 7 else jbad)))) else (bif Nat.blt pc 9 then (bif Nat.blt pc 8 then (bif Nat.beq pc 7 then J_iand 8 else jbad) else (bif Nat.beq pc 8 then J_isub 9 else jbad)) else (bif Nat.blt pc 10 then (bif Nat.beq pc 9 then J_istore 0 10 else jbad) else (bif Nat.blt pc 11 then (bif Nat.beq pc 10 then J_iload 0 11 else jbad) else (bif Nat.beq pc 11 then J_iconst 858993459 14 else jbad)))))
theorem ftl_J6_bitCount_0f7a4_0 : F_J6_bitCount_0f7a4_0 0 = J_iload 0 1 := rfl
theorem ftl_J6_bitCount_0f7a4_1 : F_J6_bitCount_0f7a4_0 1 = J_iload 0 2 := rfl
theorem ftl_J6_bitCount_0f7a4_2 : F_J6_bitCount_0f7a4_0 2 = J_iconst 1 3 := rfl
theorem ftl_J6_bitCount_0f7a4_3 : F_J6_bitCount_0f7a4_0 3 = J_iushr 4 := rfl
theorem ftl_J6_bitCount_0f7a4_4 : F_J6_bitCount_0f7a4_0 4 = J_iconst 1431655765 7 := rfl
theorem ftl_J6_bitCount_0f7a4_7 : F_J6_bitCount_0f7a4_0 7 = J_iand 8 := rfl
theorem ftl_J6_bitCount_0f7a4_8 : F_J6_bitCount_0f7a4_0 8 = J_isub 9 := rfl
theorem ftl_J6_bitCount_0f7a4_9 : F_J6_bitCount_0f7a4_0 9 = J_istore 0 10 := rfl
theorem ftl_J6_bitCount_0f7a4_10 : F_J6_bitCount_0f7a4_0 10 = J_iload 0 11 := rfl
theorem ftl_J6_bitCount_0f7a4_11 : F_J6_bitCount_0f7a4_0 11 = J_iconst 858993459 14 := rfl
theorem F_J6_bitCount_0f7a4_0_ok : jOK Y_J6_bitCount_0f7a4 none (F_J6_bitCount_0f7a4_0) := (jOK_node (jOK_node (jOK_node (jOK_leaf (sn_iload_n dJ6_bitCount_0f7a4_0 rfl rfl)) (jOK_leaf (sn_iload_n dJ6_bitCount_0f7a4_1 rfl rfl))) (jOK_node (jOK_leaf (sn_iconst dJ6_bitCount_0f7a4_2 rfl rfl)) (jOK_node (jOK_leaf (sn_iushr dJ6_bitCount_0f7a4_3 rfl)) (jOK_leaf (sn_ldcw dJ6_bitCount_0f7a4_4 tw_460 rfl))))) (jOK_node (jOK_node (jOK_leaf (sn_iand dJ6_bitCount_0f7a4_7 rfl)) (jOK_leaf (sn_isub dJ6_bitCount_0f7a4_8 rfl))) (jOK_node (jOK_leaf (sn_istore_n dJ6_bitCount_0f7a4_9 rfl rfl (by decide))) (jOK_node (jOK_leaf (sn_iload_n dJ6_bitCount_0f7a4_10 rfl rfl)) (jOK_leaf (sn_ldcw dJ6_bitCount_0f7a4_11 tw_461 rfl))))))
def F_J6_bitCount_0f7a4_14 : Nat → jT := fun pc => (bif Nat.blt pc 21 then (bif Nat.blt pc 16 then (bif Nat.blt pc 15 then (bif Nat.beq pc 14 then J_iand 15 else jbad) else (bif Nat.beq pc 15 then J_iload 0 16 else jbad)) else (bif Nat.blt pc 17 then (bif Nat.beq pc 16 then J_iconst 2 17 else jbad) else (bif Nat.blt pc 18 then (bif Nat.beq pc 17 then J_iushr 18 else jbad) else (bif Nat.beq pc 18 then J_iconst 858993459 21 else jbad)))) else (bif Nat.blt pc 24 then (bif Nat.blt pc 22 then (bif Nat.beq pc 21 then J_iand 22 else jbad) else (bif Nat.blt pc 23 then (bif Nat.beq pc 22 then J_iadd 23 else jbad) else (bif Nat.beq pc 23 then J_istore 0 24 else jbad))) else (bif Nat.blt pc 25 then (bif Nat.beq pc 24 then J_iload 0 25 else jbad) else (bif Nat.blt pc 26 then (bif Nat.beq pc 25 then J_iload 0 26 else jbad) else (bif Nat.beq pc 26 then J_iconst 4 27 else jbad)))))
theorem ftl_J6_bitCount_0f7a4_14 : F_J6_bitCount_0f7a4_14 14 = J_iand 15 := rfl
theorem ftl_J6_bitCount_0f7a4_15 : F_J6_bitCount_0f7a4_14 15 = J_iload 0 16 := rfl
theorem ftl_J6_bitCount_0f7a4_16 : F_J6_bitCount_0f7a4_14 16 = J_iconst 2 17 := rfl
theorem ftl_J6_bitCount_0f7a4_17 : F_J6_bitCount_0f7a4_14 17 = J_iushr 18 := rfl
theorem ftl_J6_bitCount_0f7a4_18 : F_J6_bitCount_0f7a4_14 18 = J_iconst 858993459 21 := rfl
theorem ftl_J6_bitCount_0f7a4_21 : F_J6_bitCount_0f7a4_14 21 = J_iand 22 := rfl
theorem ftl_J6_bitCount_0f7a4_22 : F_J6_bitCount_0f7a4_14 22 = J_iadd 23 := rfl
theorem ftl_J6_bitCount_0f7a4_23 : F_J6_bitCount_0f7a4_14 23 = J_istore 0 24 := rfl
theorem ftl_J6_bitCount_0f7a4_24 : F_J6_bitCount_0f7a4_14 24 = J_iload 0 25 := rfl
theorem ftl_J6_bitCount_0f7a4_25 : F_J6_bitCount_0f7a4_14 25 = J_iload 0 26 := rfl
theorem ftl_J6_bitCount_0f7a4_26 : F_J6_bitCount_0f7a4_14 26 = J_iconst 4 27 := rfl
theorem F_J6_bitCount_0f7a4_14_ok : jOK Y_J6_bitCount_0f7a4 none (F_J6_bitCount_0f7a4_14) := (jOK_node (jOK_node (jOK_node (jOK_leaf (sn_iand dJ6_bitCount_0f7a4_14 rfl)) (jOK_leaf (sn_iload_n dJ6_bitCount_0f7a4_15 rfl rfl))) (jOK_node (jOK_leaf (sn_iconst dJ6_bitCount_0f7a4_16 rfl rfl)) (jOK_node (jOK_leaf (sn_iushr dJ6_bitCount_0f7a4_17 rfl)) (jOK_leaf (sn_ldcw dJ6_bitCount_0f7a4_18 tw_461 rfl))))) (jOK_node (jOK_node (jOK_leaf (sn_iand dJ6_bitCount_0f7a4_21 rfl)) (jOK_node (jOK_leaf (sn_iadd dJ6_bitCount_0f7a4_22 rfl)) (jOK_leaf (sn_istore_n dJ6_bitCount_0f7a4_23 rfl rfl (by decide))))) (jOK_node (jOK_leaf (sn_iload_n dJ6_bitCount_0f7a4_24 rfl rfl)) (jOK_node (jOK_leaf (sn_iload_n dJ6_bitCount_0f7a4_25 rfl rfl)) (jOK_leaf (sn_iconst dJ6_bitCount_0f7a4_26 rfl rfl))))))
def F_J6_bitCount_0f7a4_0_26 : Nat → jT := fun pc => bif Nat.blt pc 14 then F_J6_bitCount_0f7a4_0 pc else F_J6_bitCount_0f7a4_14 pc
theorem F_J6_bitCount_0f7a4_0_26_ok : jOK Y_J6_bitCount_0f7a4 none (F_J6_bitCount_0f7a4_0_26) := jOK_node (F_J6_bitCount_0f7a4_0_ok) (F_J6_bitCount_0f7a4_14_ok)
def F_J6_bitCount_0f7a4_27 : Nat → jT := fun pc => (bif Nat.blt pc 34 then (bif Nat.blt pc 29 then (bif Nat.blt pc 28 then (bif Nat.beq pc 27 then J_iushr 28 else jbad) else (bif Nat.beq pc 28 then J_iadd 29 else jbad)) else (bif Nat.blt pc 32 then (bif Nat.beq pc 29 then J_iconst 252645135 32 else jbad) else (bif Nat.blt pc 33 then (bif Nat.beq pc 32 then J_iand 33 else jbad) else (bif Nat.beq pc 33 then J_istore 0 34 else jbad)))) else (bif Nat.blt pc 36 then (bif Nat.blt pc 35 then (bif Nat.beq pc 34 then J_iload 0 35 else jbad) else (bif Nat.beq pc 35 then J_iload 0 36 else jbad)) else (bif Nat.blt pc 38 then (bif Nat.beq pc 36 then J_iconst 8 38 else jbad) else (bif Nat.blt pc 39 then (bif Nat.beq pc 38 then J_iushr 39 else jbad) else (bif Nat.beq pc 39 then J_iadd 40 else jbad)))))
theorem ftl_J6_bitCount_0f7a4_27 : F_J6_bitCount_0f7a4_27 27 = J_iushr 28 := rfl
theorem ftl_J6_bitCount_0f7a4_28 : F_J6_bitCount_0f7a4_27 28 = J_iadd 29 := rfl
theorem ftl_J6_bitCount_0f7a4_29 : F_J6_bitCount_0f7a4_27 29 = J_iconst 252645135 32 := rfl
theorem ftl_J6_bitCount_0f7a4_32 : F_J6_bitCount_0f7a4_27 32 = J_iand 33 := rfl
theorem ftl_J6_bitCount_0f7a4_33 : F_J6_bitCount_0f7a4_27 33 = J_istore 0 34 := rfl
theorem ftl_J6_bitCount_0f7a4_34 : F_J6_bitCount_0f7a4_27 34 = J_iload 0 35 := rfl
theorem ftl_J6_bitCount_0f7a4_35 : F_J6_bitCount_0f7a4_27 35 = J_iload 0 36 := rfl
theorem ftl_J6_bitCount_0f7a4_36 : F_J6_bitCount_0f7a4_27 36 = J_iconst 8 38 := rfl
theorem ftl_J6_bitCount_0f7a4_38 : F_J6_bitCount_0f7a4_27 38 = J_iushr 39 := rfl
theorem ftl_J6_bitCount_0f7a4_39 : F_J6_bitCount_0f7a4_27 39 = J_iadd 40 := rfl
theorem F_J6_bitCount_0f7a4_27_ok : jOK Y_J6_bitCount_0f7a4 none (F_J6_bitCount_0f7a4_27) := (jOK_node (jOK_node (jOK_node (jOK_leaf (sn_iushr dJ6_bitCount_0f7a4_27 rfl)) (jOK_leaf (sn_iadd dJ6_bitCount_0f7a4_28 rfl))) (jOK_node (jOK_leaf (sn_ldcw dJ6_bitCount_0f7a4_29 tw_462 rfl)) (jOK_node (jOK_leaf (sn_iand dJ6_bitCount_0f7a4_32 rfl)) (jOK_leaf (sn_istore_n dJ6_bitCount_0f7a4_33 rfl rfl (by decide)))))) (jOK_node (jOK_node (jOK_leaf (sn_iload_n dJ6_bitCount_0f7a4_34 rfl rfl)) (jOK_leaf (sn_iload_n dJ6_bitCount_0f7a4_35 rfl rfl))) (jOK_node (jOK_leaf (sn_bipush dJ6_bitCount_0f7a4_36 rfl rfl)) (jOK_node (jOK_leaf (sn_iushr dJ6_bitCount_0f7a4_38 rfl)) (jOK_leaf (sn_iadd dJ6_bitCount_0f7a4_39 rfl))))))
def F_J6_bitCount_0f7a4_40 : Nat → jT := fun pc => (bif Nat.blt pc 46 then (bif Nat.blt pc 42 then (bif Nat.blt pc 41 then (bif Nat.beq pc 40 then J_istore 0 41 else jbad) else (bif Nat.beq pc 41 then J_iload 0 42 else jbad)) else (bif Nat.blt pc 43 then (bif Nat.beq pc 42 then J_iload 0 43 else jbad) else (bif Nat.blt pc 45 then (bif Nat.beq pc 43 then J_iconst 16 45 else jbad) else (bif Nat.beq pc 45 then J_iushr 46 else jbad)))) else (bif Nat.blt pc 49 then (bif Nat.blt pc 47 then (bif Nat.beq pc 46 then J_iadd 47 else jbad) else (bif Nat.blt pc 48 then (bif Nat.beq pc 47 then J_istore 0 48 else jbad) else (bif Nat.beq pc 48 then J_iload 0 49 else jbad))) else (bif Nat.blt pc 51 then (bif Nat.beq pc 49 then J_iconst 63 51 else jbad) else (bif Nat.blt pc 52 then (bif Nat.beq pc 51 then J_iand 52 else jbad) else (bif Nat.beq pc 52 then J_ireturn 0 0 else jbad)))))
theorem ftl_J6_bitCount_0f7a4_40 : F_J6_bitCount_0f7a4_40 40 = J_istore 0 41 := rfl
theorem ftl_J6_bitCount_0f7a4_41 : F_J6_bitCount_0f7a4_40 41 = J_iload 0 42 := rfl
theorem ftl_J6_bitCount_0f7a4_42 : F_J6_bitCount_0f7a4_40 42 = J_iload 0 43 := rfl
theorem ftl_J6_bitCount_0f7a4_43 : F_J6_bitCount_0f7a4_40 43 = J_iconst 16 45 := rfl
theorem ftl_J6_bitCount_0f7a4_45 : F_J6_bitCount_0f7a4_40 45 = J_iushr 46 := rfl
theorem ftl_J6_bitCount_0f7a4_46 : F_J6_bitCount_0f7a4_40 46 = J_iadd 47 := rfl
theorem ftl_J6_bitCount_0f7a4_47 : F_J6_bitCount_0f7a4_40 47 = J_istore 0 48 := rfl
theorem ftl_J6_bitCount_0f7a4_48 : F_J6_bitCount_0f7a4_40 48 = J_iload 0 49 := rfl
theorem ftl_J6_bitCount_0f7a4_49 : F_J6_bitCount_0f7a4_40 49 = J_iconst 63 51 := rfl
theorem ftl_J6_bitCount_0f7a4_51 : F_J6_bitCount_0f7a4_40 51 = J_iand 52 := rfl
theorem ftl_J6_bitCount_0f7a4_52 : F_J6_bitCount_0f7a4_40 52 = J_ireturn 0 0 := rfl
theorem F_J6_bitCount_0f7a4_40_ok : jOK Y_J6_bitCount_0f7a4 none (F_J6_bitCount_0f7a4_40) := (jOK_node (jOK_node (jOK_node (jOK_leaf (sn_istore_n dJ6_bitCount_0f7a4_40 rfl rfl (by decide))) (jOK_leaf (sn_iload_n dJ6_bitCount_0f7a4_41 rfl rfl))) (jOK_node (jOK_leaf (sn_iload_n dJ6_bitCount_0f7a4_42 rfl rfl)) (jOK_node (jOK_leaf (sn_bipush dJ6_bitCount_0f7a4_43 rfl rfl)) (jOK_leaf (sn_iushr dJ6_bitCount_0f7a4_45 rfl))))) (jOK_node (jOK_node (jOK_leaf (sn_iadd dJ6_bitCount_0f7a4_46 rfl)) (jOK_node (jOK_leaf (sn_istore_n dJ6_bitCount_0f7a4_47 rfl rfl (by decide))) (jOK_leaf (sn_iload_n dJ6_bitCount_0f7a4_48 rfl rfl)))) (jOK_node (jOK_leaf (sn_bipush dJ6_bitCount_0f7a4_49 rfl rfl)) (jOK_node (jOK_leaf (sn_iand dJ6_bitCount_0f7a4_51 rfl)) (jOK_leaf (sn_ireturn dJ6_bitCount_0f7a4_52 rfl rfl))))))
def F_J6_bitCount_0f7a4_27_52 : Nat → jT := fun pc => bif Nat.blt pc 40 then F_J6_bitCount_0f7a4_27 pc else F_J6_bitCount_0f7a4_40 pc
theorem F_J6_bitCount_0f7a4_27_52_ok : jOK Y_J6_bitCount_0f7a4 none (F_J6_bitCount_0f7a4_27_52) := jOK_node (F_J6_bitCount_0f7a4_27_ok) (F_J6_bitCount_0f7a4_40_ok)
def F_J6_bitCount_0f7a4_0_52 : Nat → jT := fun pc => bif Nat.blt pc 27 then F_J6_bitCount_0f7a4_0_26 pc else F_J6_bitCount_0f7a4_27_52 pc
theorem F_J6_bitCount_0f7a4_0_52_ok : jOK Y_J6_bitCount_0f7a4 none (F_J6_bitCount_0f7a4_0_52) := jOK_node (F_J6_bitCount_0f7a4_0_26_ok) (F_J6_bitCount_0f7a4_27_52_ok)
def F_J6_bitCount_0f7a4 : Nat → jT := F_J6_bitCount_0f7a4_0_52
theorem OK_J6_bitCount_0f7a4 : jOK Y_J6_bitCount_0f7a4 none (F_J6_bitCount_0f7a4) := F_J6_bitCount_0f7a4_0_52_ok
theorem ft_J6_bitCount_0f7a4_0 : F_J6_bitCount_0f7a4 0 = J_iload 0 1 := ftl_J6_bitCount_0f7a4_0
theorem ft_J6_bitCount_0f7a4_1 : F_J6_bitCount_0f7a4 1 = J_iload 0 2 := ftl_J6_bitCount_0f7a4_1
theorem ft_J6_bitCount_0f7a4_2 : F_J6_bitCount_0f7a4 2 = J_iconst 1 3 := ftl_J6_bitCount_0f7a4_2
theorem ft_J6_bitCount_0f7a4_3 : F_J6_bitCount_0f7a4 3 = J_iushr 4 := ftl_J6_bitCount_0f7a4_3
theorem ft_J6_bitCount_0f7a4_4 : F_J6_bitCount_0f7a4 4 = J_iconst 1431655765 7 := ftl_J6_bitCount_0f7a4_4
theorem ft_J6_bitCount_0f7a4_7 : F_J6_bitCount_0f7a4 7 = J_iand 8 := ftl_J6_bitCount_0f7a4_7
theorem ft_J6_bitCount_0f7a4_8 : F_J6_bitCount_0f7a4 8 = J_isub 9 := ftl_J6_bitCount_0f7a4_8
theorem ft_J6_bitCount_0f7a4_9 : F_J6_bitCount_0f7a4 9 = J_istore 0 10 := ftl_J6_bitCount_0f7a4_9
theorem ft_J6_bitCount_0f7a4_10 : F_J6_bitCount_0f7a4 10 = J_iload 0 11 := ftl_J6_bitCount_0f7a4_10
theorem ft_J6_bitCount_0f7a4_11 : F_J6_bitCount_0f7a4 11 = J_iconst 858993459 14 := ftl_J6_bitCount_0f7a4_11
theorem ft_J6_bitCount_0f7a4_14 : F_J6_bitCount_0f7a4 14 = J_iand 15 := ftl_J6_bitCount_0f7a4_14
theorem ft_J6_bitCount_0f7a4_15 : F_J6_bitCount_0f7a4 15 = J_iload 0 16 := ftl_J6_bitCount_0f7a4_15
theorem ft_J6_bitCount_0f7a4_16 : F_J6_bitCount_0f7a4 16 = J_iconst 2 17 := ftl_J6_bitCount_0f7a4_16
theorem ft_J6_bitCount_0f7a4_17 : F_J6_bitCount_0f7a4 17 = J_iushr 18 := ftl_J6_bitCount_0f7a4_17
theorem ft_J6_bitCount_0f7a4_18 : F_J6_bitCount_0f7a4 18 = J_iconst 858993459 21 := ftl_J6_bitCount_0f7a4_18
theorem ft_J6_bitCount_0f7a4_21 : F_J6_bitCount_0f7a4 21 = J_iand 22 := ftl_J6_bitCount_0f7a4_21
theorem ft_J6_bitCount_0f7a4_22 : F_J6_bitCount_0f7a4 22 = J_iadd 23 := ftl_J6_bitCount_0f7a4_22
theorem ft_J6_bitCount_0f7a4_23 : F_J6_bitCount_0f7a4 23 = J_istore 0 24 := ftl_J6_bitCount_0f7a4_23
theorem ft_J6_bitCount_0f7a4_24 : F_J6_bitCount_0f7a4 24 = J_iload 0 25 := ftl_J6_bitCount_0f7a4_24
theorem ft_J6_bitCount_0f7a4_25 : F_J6_bitCount_0f7a4 25 = J_iload 0 26 := ftl_J6_bitCount_0f7a4_25
theorem ft_J6_bitCount_0f7a4_26 : F_J6_bitCount_0f7a4 26 = J_iconst 4 27 := ftl_J6_bitCount_0f7a4_26
theorem ft_J6_bitCount_0f7a4_27 : F_J6_bitCount_0f7a4 27 = J_iushr 28 := ftl_J6_bitCount_0f7a4_27
theorem ft_J6_bitCount_0f7a4_28 : F_J6_bitCount_0f7a4 28 = J_iadd 29 := ftl_J6_bitCount_0f7a4_28
theorem ft_J6_bitCount_0f7a4_29 : F_J6_bitCount_0f7a4 29 = J_iconst 252645135 32 := ftl_J6_bitCount_0f7a4_29
theorem ft_J6_bitCount_0f7a4_32 : F_J6_bitCount_0f7a4 32 = J_iand 33 := ftl_J6_bitCount_0f7a4_32
theorem ft_J6_bitCount_0f7a4_33 : F_J6_bitCount_0f7a4 33 = J_istore 0 34 := ftl_J6_bitCount_0f7a4_33
theorem ft_J6_bitCount_0f7a4_34 : F_J6_bitCount_0f7a4 34 = J_iload 0 35 := ftl_J6_bitCount_0f7a4_34
theorem ft_J6_bitCount_0f7a4_35 : F_J6_bitCount_0f7a4 35 = J_iload 0 36 := ftl_J6_bitCount_0f7a4_35
theorem ft_J6_bitCount_0f7a4_36 : F_J6_bitCount_0f7a4 36 = J_iconst 8 38 := ftl_J6_bitCount_0f7a4_36
theorem ft_J6_bitCount_0f7a4_38 : F_J6_bitCount_0f7a4 38 = J_iushr 39 := ftl_J6_bitCount_0f7a4_38
theorem ft_J6_bitCount_0f7a4_39 : F_J6_bitCount_0f7a4 39 = J_iadd 40 := ftl_J6_bitCount_0f7a4_39
theorem ft_J6_bitCount_0f7a4_40 : F_J6_bitCount_0f7a4 40 = J_istore 0 41 := ftl_J6_bitCount_0f7a4_40
theorem ft_J6_bitCount_0f7a4_41 : F_J6_bitCount_0f7a4 41 = J_iload 0 42 := ftl_J6_bitCount_0f7a4_41
theorem ft_J6_bitCount_0f7a4_42 : F_J6_bitCount_0f7a4 42 = J_iload 0 43 := ftl_J6_bitCount_0f7a4_42
theorem ft_J6_bitCount_0f7a4_43 : F_J6_bitCount_0f7a4 43 = J_iconst 16 45 := ftl_J6_bitCount_0f7a4_43
theorem ft_J6_bitCount_0f7a4_45 : F_J6_bitCount_0f7a4 45 = J_iushr 46 := ftl_J6_bitCount_0f7a4_45
theorem ft_J6_bitCount_0f7a4_46 : F_J6_bitCount_0f7a4 46 = J_iadd 47 := ftl_J6_bitCount_0f7a4_46
theorem ft_J6_bitCount_0f7a4_47 : F_J6_bitCount_0f7a4 47 = J_istore 0 48 := ftl_J6_bitCount_0f7a4_47
theorem ft_J6_bitCount_0f7a4_48 : F_J6_bitCount_0f7a4 48 = J_iload 0 49 := ftl_J6_bitCount_0f7a4_48
theorem ft_J6_bitCount_0f7a4_49 : F_J6_bitCount_0f7a4 49 = J_iconst 63 51 := ftl_J6_bitCount_0f7a4_49
theorem ft_J6_bitCount_0f7a4_51 : F_J6_bitCount_0f7a4 51 = J_iand 52 := ftl_J6_bitCount_0f7a4_51
theorem ft_J6_bitCount_0f7a4_52 : F_J6_bitCount_0f7a4 52 = J_ireturn 0 0 := ftl_J6_bitCount_0f7a4_52
def S_J6_bitCount_0f7a4 : jSp := fun nb vs mem Q => jcs vs ≤ 1 ∧ jrun F_J6_bitCount_0f7a4 [] 60 Q (fun _ _ _ _ _ => False) 0 (jargs vs ++ []) [] mem (nb, 0, 0)
theorem ok_J6_bitCount_0f7a4 : jMeets Y_J6_bitCount_0f7a4 S_J6_bitCount_0f7a4 := fun _ _ _ _ h => Ok.inl OK_J6_bitCount_0f7a4 60 [] pnJ6 rfl h
def bcF (x : Int32) : Int32 :=
  let a := x - ((x.toUInt32 >>> ((1 : Int32).toUInt32 &&& Int32.toUInt32 31)).toInt32 &&& 1431655765)
  let b := (a &&& 858993459) + ((a.toUInt32 >>> ((2 : Int32).toUInt32 &&& Int32.toUInt32 31)).toInt32 &&& 858993459)
  let c := (b + (b.toUInt32 >>> ((4 : Int32).toUInt32 &&& Int32.toUInt32 31)).toInt32) &&& 252645135
  let d := c + (c.toUInt32 >>> ((8 : Int32).toUInt32 &&& Int32.toUInt32 31)).toInt32
  (d + (d.toUInt32 >>> ((16 : Int32).toUInt32 &&& Int32.toUInt32 31)).toInt32) &&& 63
theorem s_J6_bitCount {nb : Nat} {mem : jM} {x : Int32} {Q : jQ} : S_J6_bitCount_0f7a4 nb [.int x] mem Q = Q (some (.int (bcF x))) mem := by
  refine (eq_le rfl).trans ?_
  simp -implicitDefEqProofs only [jr_0, jr_1, jr_2, j_iconst, j_lconst, j_iload0, j_aload0, j_istore0, j_astore0, j_iinc0, j_iload1, j_aload1, j_istore1, j_astore1, j_iinc1, j_iload2, j_aload2, j_istore2, j_astore2, j_iinc2, j_iload3, j_aload3, j_istore3, j_astore3, j_iinc3, j_iload4, j_aload4, j_istore4, j_astore4, j_iinc4, j_iload5, j_aload5, j_istore5, j_astore5, j_iinc5, j_iload6, j_aload6, j_istore6, j_astore6, j_iinc6, j_iload7, j_aload7, j_istore7, j_astore7, j_iinc7, j_iload8, j_aload8, j_istore8, j_astore8, j_iinc8, j_iadd, j_isub, j_imul, j_iand, j_ior, j_ixor, j_ishl, j_ishr, j_iushr, j_idiv, j_irem, j_ineg, j_ladd, j_lmul, j_land, j_lor, j_lcmp, j_lushr, j_lshl, j_i2l, j_l2i, j_dupI, j_dupR, j_popI, j_dup2, j_ifeq, j_iceq, j_ifne, j_icne, j_iflt, j_iclt, j_ifge, j_icge, j_ifgt, j_icgt, j_ifle, j_icle, j_goto, j_tsw, j_sw0, j_sw1, j_ireturn, j_zreturn, j_lreturn, j_return, j_getfield, j_putI, j_putJ, j_putR, j_iaload, j_baload, j_iastore, j_bastore, j_aaload, j_q, j_aastore, j_acopy, j_mmin, j_mmax, j_mabs, j_objinit, j_new, j_newI, j_newQ, j_sld, j_slen, j_callV0, j_callI0, j_callS0, j_callV1, j_callI1, j_callS1, j_callV2, j_callI2, j_callS2, j_callV3, j_callS3, j_callV4, j_callS4, j_callV5, j_callS5, j_pushS, j_pushN, j_sh0, j_sh1, j_sh2, j_sh3, j_sh4, Int32.reduceAdd, Int32.reduceMul, Int32.reduceSub, Int32.reduceLT, Int32.reduceLE, eq_self, i32_10, i32_01, ne_eq, hrow_s, hrow_n, ne10, ne100, ne1000, ne7, ne4, ne14, ne9973, or_true, true_or, or_false, false_or, not_true_eq_false, not_false_eq_true, false_implies, implies_true, and_true, forall_const, true_implies, jargs_n, jargs_r, jargs_i, List.cons_append, List.nil_append, true_and, Nat.reduceEqDiff, reduceIte, ft_J6_bitCount_0f7a4_0, ft_J6_bitCount_0f7a4_1, ft_J6_bitCount_0f7a4_2, ft_J6_bitCount_0f7a4_3, ft_J6_bitCount_0f7a4_4, ft_J6_bitCount_0f7a4_7, ft_J6_bitCount_0f7a4_8, ft_J6_bitCount_0f7a4_9, ft_J6_bitCount_0f7a4_10, ft_J6_bitCount_0f7a4_11, ft_J6_bitCount_0f7a4_14, ft_J6_bitCount_0f7a4_15, ft_J6_bitCount_0f7a4_16, ft_J6_bitCount_0f7a4_17, ft_J6_bitCount_0f7a4_18, ft_J6_bitCount_0f7a4_21, ft_J6_bitCount_0f7a4_22, ft_J6_bitCount_0f7a4_23, ft_J6_bitCount_0f7a4_24, ft_J6_bitCount_0f7a4_25, ft_J6_bitCount_0f7a4_26, ft_J6_bitCount_0f7a4_27, ft_J6_bitCount_0f7a4_28, ft_J6_bitCount_0f7a4_29, ft_J6_bitCount_0f7a4_32, ft_J6_bitCount_0f7a4_33, ft_J6_bitCount_0f7a4_34, ft_J6_bitCount_0f7a4_35, ft_J6_bitCount_0f7a4_36, ft_J6_bitCount_0f7a4_38, ft_J6_bitCount_0f7a4_39, ft_J6_bitCount_0f7a4_40, ft_J6_bitCount_0f7a4_41, ft_J6_bitCount_0f7a4_42, ft_J6_bitCount_0f7a4_43, ft_J6_bitCount_0f7a4_45, ft_J6_bitCount_0f7a4_46, ft_J6_bitCount_0f7a4_47, ft_J6_bitCount_0f7a4_48, ft_J6_bitCount_0f7a4_49, ft_J6_bitCount_0f7a4_51, ft_J6_bitCount_0f7a4_52]
  rfl
def plugR (ρ : Nat → Int32) (p c : Int32) : Nat → Int32 := rstartF (rset ρ p 1 c) p 1
def F_X0_plugIn_0 : Nat → jT := fun pc => (bif Nat.blt pc 8 then (bif Nat.blt pc 4 then (bif Nat.blt pc 1 then (bif Nat.beq pc 0 then J_aload 0 1 else jbad) else (bif Nat.beq pc 1 then J_getfield 0 0 4 else jbad)) else (bif Nat.blt pc 5 then (bif Nat.beq pc 4 then J_iload 2 5 else jbad) else (bif Nat.beq pc 5 then J_callV 3 S_X3_hasPost 1 8 else jbad))) else (bif Nat.blt pc 12 then (bif Nat.blt pc 11 then (bif Nat.beq pc 8 then J_ifeq 22 11 else jbad) else (bif Nat.beq pc 11 then J_aload 0 12 else jbad)) else (bif Nat.blt pc 15 then (bif Nat.beq pc 12 then J_getfield 0 0 15 else jbad) else (bif Nat.blt pc 16 then (bif Nat.beq pc 15 then J_iload 3 16 else jbad) else (bif Nat.beq pc 16 then J_callV 3 S_X3_hasCar 1 19 else jbad)))))
theorem ftl_X0_plugIn_0 : F_X0_plugIn_0 0 = J_aload 0 1 := rfl
theorem ftl_X0_plugIn_1 : F_X0_plugIn_0 1 = J_getfield 0 0 4 := rfl
theorem ftl_X0_plugIn_4 : F_X0_plugIn_0 4 = J_iload 2 5 := rfl
theorem ftl_X0_plugIn_5 : F_X0_plugIn_0 5 = J_callV 3 S_X3_hasPost 1 8 := rfl
theorem ftl_X0_plugIn_8 : F_X0_plugIn_0 8 = J_ifeq 22 11 := rfl
theorem ftl_X0_plugIn_11 : F_X0_plugIn_0 11 = J_aload 0 12 := rfl
theorem ftl_X0_plugIn_12 : F_X0_plugIn_0 12 = J_getfield 0 0 15 := rfl
theorem ftl_X0_plugIn_15 : F_X0_plugIn_0 15 = J_iload 3 16 := rfl
theorem ftl_X0_plugIn_16 : F_X0_plugIn_0 16 = J_callV 3 S_X3_hasCar 1 19 := rfl
theorem F_X0_plugIn_0_ok : jOK Y_X0_plugIn none (F_X0_plugIn_0) := (jOK_node (jOK_node (jOK_node (jOK_leaf (sn_aload_n dX0_plugIn_0 rfl rfl)) (jOK_leaf (sn_getfield dX0_plugIn_1 rfl rfl (by decide) tw_73 jin0))) (jOK_node (jOK_leaf (sn_iload_n dX0_plugIn_4 rfl rfl)) (jOK_leaf (sn_callV (Y' := Y_X3_hasPost) ok_X3_hasPost dX0_plugIn_5 rfl rfl rfl tw_420 tw_287 tw_288 tw_3 jc_X3_hasPost rfl ⟨by decide, by decide, rfl⟩ ⟨by decide, by decide⟩)))) (jOK_node (jOK_node (jOK_leaf (sn_ifeq dX0_plugIn_8 rfl rfl)) (jOK_leaf (sn_aload_n dX0_plugIn_11 rfl rfl))) (jOK_node (jOK_leaf (sn_getfield dX0_plugIn_12 rfl rfl (by decide) tw_73 jin0)) (jOK_node (jOK_leaf (sn_iload_n dX0_plugIn_15 rfl rfl)) (jOK_leaf (sn_callV (Y' := Y_X3_hasCar) ok_X3_hasCar dX0_plugIn_16 rfl rfl rfl tw_421 tw_159 tw_160 tw_3 jc_X3_hasCar rfl ⟨by decide, by decide, rfl⟩ ⟨by decide, by decide⟩))))))
def F_X0_plugIn_19 : Nat → jT := fun pc => (bif Nat.blt pc 25 then (bif Nat.blt pc 23 then (bif Nat.blt pc 22 then (bif Nat.beq pc 19 then J_ifne 24 22 else jbad) else (bif Nat.beq pc 22 then J_iconst (-1) 23 else jbad)) else (bif Nat.blt pc 24 then (bif Nat.beq pc 23 then J_ireturn 0 0 else jbad) else (bif Nat.beq pc 24 then J_aload 1 25 else jbad))) else (bif Nat.blt pc 27 then (bif Nat.blt pc 26 then (bif Nat.beq pc 25 then J_iload 2 26 else jbad) else (bif Nat.beq pc 26 then J_iconst 2 27 else jbad)) else (bif Nat.blt pc 30 then (bif Nat.beq pc 27 then J_callV 4 S_X4_get 2 30 else jbad) else (bif Nat.blt pc 33 then (bif Nat.beq pc 30 then J_ifne 43 33 else jbad) else (bif Nat.beq pc 33 then J_aload 1 34 else jbad)))))
theorem ftl_X0_plugIn_19 : F_X0_plugIn_19 19 = J_ifne 24 22 := rfl
theorem ftl_X0_plugIn_22 : F_X0_plugIn_19 22 = J_iconst (-1) 23 := rfl
theorem ftl_X0_plugIn_23 : F_X0_plugIn_19 23 = J_ireturn 0 0 := rfl
theorem ftl_X0_plugIn_24 : F_X0_plugIn_19 24 = J_aload 1 25 := rfl
theorem ftl_X0_plugIn_25 : F_X0_plugIn_19 25 = J_iload 2 26 := rfl
theorem ftl_X0_plugIn_26 : F_X0_plugIn_19 26 = J_iconst 2 27 := rfl
theorem ftl_X0_plugIn_27 : F_X0_plugIn_19 27 = J_callV 4 S_X4_get 2 30 := rfl
theorem ftl_X0_plugIn_30 : F_X0_plugIn_19 30 = J_ifne 43 33 := rfl
theorem ftl_X0_plugIn_33 : F_X0_plugIn_19 33 = J_aload 1 34 := rfl
theorem F_X0_plugIn_19_ok : jOK Y_X0_plugIn none (F_X0_plugIn_19) := (jOK_node (jOK_node (jOK_node (jOK_leaf (sn_ifne dX0_plugIn_19 rfl rfl)) (jOK_leaf (sn_iconst dX0_plugIn_22 rfl rfl))) (jOK_node (jOK_leaf (sn_ireturn dX0_plugIn_23 rfl rfl)) (jOK_leaf (sn_aload_n dX0_plugIn_24 rfl rfl)))) (jOK_node (jOK_node (jOK_leaf (sn_iload_n dX0_plugIn_25 rfl rfl)) (jOK_leaf (sn_iconst dX0_plugIn_26 rfl rfl))) (jOK_node (jOK_leaf (sn_callV (Y' := Y_X4_get) ok_X4_get dX0_plugIn_27 rfl rfl rfl tw_306 tw_267 tw_268 tw_5 jc_X4_get rfl ⟨by decide, by decide, rfl⟩ ⟨by decide, by decide⟩)) (jOK_node (jOK_leaf (sn_ifne dX0_plugIn_30 rfl rfl)) (jOK_leaf (sn_aload_n dX0_plugIn_33 rfl rfl))))))
def F_X0_plugIn_0_33 : Nat → jT := fun pc => bif Nat.blt pc 19 then F_X0_plugIn_0 pc else F_X0_plugIn_19 pc
theorem F_X0_plugIn_0_33_ok : jOK Y_X0_plugIn none (F_X0_plugIn_0_33) := jOK_node (F_X0_plugIn_0_ok) (F_X0_plugIn_19_ok)
def F_X0_plugIn_34 : Nat → jT := fun pc => (bif Nat.blt pc 43 then (bif Nat.blt pc 38 then (bif Nat.blt pc 35 then (bif Nat.beq pc 34 then J_iload 3 35 else jbad) else (bif Nat.beq pc 35 then J_callV 4 S_X4_postOf 1 38 else jbad)) else (bif Nat.blt pc 40 then (bif Nat.beq pc 38 then J_iconst (-9) 40 else jbad) else (bif Nat.beq pc 40 then J_iceq 46 43 else jbad))) else (bif Nat.blt pc 46 then (bif Nat.blt pc 45 then (bif Nat.beq pc 43 then J_iconst (-3) 45 else jbad) else (bif Nat.beq pc 45 then J_ireturn 0 0 else jbad)) else (bif Nat.blt pc 47 then (bif Nat.beq pc 46 then J_aload 1 47 else jbad) else (bif Nat.blt pc 48 then (bif Nat.beq pc 47 then J_iload 2 48 else jbad) else (bif Nat.beq pc 48 then J_iconst 1 49 else jbad)))))
theorem ftl_X0_plugIn_34 : F_X0_plugIn_34 34 = J_iload 3 35 := rfl
theorem ftl_X0_plugIn_35 : F_X0_plugIn_34 35 = J_callV 4 S_X4_postOf 1 38 := rfl
theorem ftl_X0_plugIn_38 : F_X0_plugIn_34 38 = J_iconst (-9) 40 := rfl
theorem ftl_X0_plugIn_40 : F_X0_plugIn_34 40 = J_iceq 46 43 := rfl
theorem ftl_X0_plugIn_43 : F_X0_plugIn_34 43 = J_iconst (-3) 45 := rfl
theorem ftl_X0_plugIn_45 : F_X0_plugIn_34 45 = J_ireturn 0 0 := rfl
theorem ftl_X0_plugIn_46 : F_X0_plugIn_34 46 = J_aload 1 47 := rfl
theorem ftl_X0_plugIn_47 : F_X0_plugIn_34 47 = J_iload 2 48 := rfl
theorem ftl_X0_plugIn_48 : F_X0_plugIn_34 48 = J_iconst 1 49 := rfl
theorem F_X0_plugIn_34_ok : jOK Y_X0_plugIn none (F_X0_plugIn_34) := (jOK_node (jOK_node (jOK_node (jOK_leaf (sn_iload_n dX0_plugIn_34 rfl rfl)) (jOK_leaf (sn_callV (Y' := Y_X4_postOf) ok_X4_postOf dX0_plugIn_35 rfl rfl rfl tw_422 tw_323 tw_324 tw_5 jc_X4_postOf rfl ⟨by decide, by decide, rfl⟩ ⟨by decide, by decide⟩))) (jOK_node (jOK_leaf (sn_bipush dX0_plugIn_38 rfl rfl)) (jOK_leaf (sn_iceq dX0_plugIn_40 rfl rfl)))) (jOK_node (jOK_node (jOK_leaf (sn_bipush dX0_plugIn_43 rfl rfl)) (jOK_leaf (sn_ireturn dX0_plugIn_45 rfl rfl))) (jOK_node (jOK_leaf (sn_aload_n dX0_plugIn_46 rfl rfl)) (jOK_node (jOK_leaf (sn_iload_n dX0_plugIn_47 rfl rfl)) (jOK_leaf (sn_iconst dX0_plugIn_48 rfl rfl))))))
def F_X0_plugIn_49 : Nat → jT := fun pc => (bif Nat.blt pc 55 then (bif Nat.blt pc 53 then (bif Nat.blt pc 50 then (bif Nat.beq pc 49 then J_iload 3 50 else jbad) else (bif Nat.beq pc 50 then J_callV 4 S_X4_set 3 53 else jbad)) else (bif Nat.blt pc 54 then (bif Nat.beq pc 53 then J_aload 1 54 else jbad) else (bif Nat.beq pc 54 then J_iload 2 55 else jbad))) else (bif Nat.blt pc 59 then (bif Nat.blt pc 56 then (bif Nat.beq pc 55 then J_iconst 1 56 else jbad) else (bif Nat.beq pc 56 then J_callV 4 S_X4_restart 2 59 else jbad)) else (bif Nat.blt pc 60 then (bif Nat.beq pc 59 then J_aload 1 60 else jbad) else (bif Nat.blt pc 63 then (bif Nat.beq pc 60 then J_callV 4 S_X4_carsAtPosts 0 63 else jbad) else (bif Nat.beq pc 63 then J_ireturn 0 0 else jbad)))))
theorem ftl_X0_plugIn_49 : F_X0_plugIn_49 49 = J_iload 3 50 := rfl
theorem ftl_X0_plugIn_50 : F_X0_plugIn_49 50 = J_callV 4 S_X4_set 3 53 := rfl
theorem ftl_X0_plugIn_53 : F_X0_plugIn_49 53 = J_aload 1 54 := rfl
theorem ftl_X0_plugIn_54 : F_X0_plugIn_49 54 = J_iload 2 55 := rfl
theorem ftl_X0_plugIn_55 : F_X0_plugIn_49 55 = J_iconst 1 56 := rfl
theorem ftl_X0_plugIn_56 : F_X0_plugIn_49 56 = J_callV 4 S_X4_restart 2 59 := rfl
theorem ftl_X0_plugIn_59 : F_X0_plugIn_49 59 = J_aload 1 60 := rfl
theorem ftl_X0_plugIn_60 : F_X0_plugIn_49 60 = J_callV 4 S_X4_carsAtPosts 0 63 := rfl
theorem ftl_X0_plugIn_63 : F_X0_plugIn_49 63 = J_ireturn 0 0 := rfl
theorem F_X0_plugIn_49_ok : jOK Y_X0_plugIn none (F_X0_plugIn_49) := (jOK_node (jOK_node (jOK_node (jOK_leaf (sn_iload_n dX0_plugIn_49 rfl rfl)) (jOK_leaf (sn_callV (Y' := Y_X4_set) ok_X4_set dX0_plugIn_50 rfl rfl rfl tw_358 tw_151 tw_152 tw_5 jc_X4_set rfl ⟨by decide, by decide, rfl⟩ ⟨by decide, by decide⟩))) (jOK_node (jOK_leaf (sn_aload_n dX0_plugIn_53 rfl rfl)) (jOK_leaf (sn_iload_n dX0_plugIn_54 rfl rfl)))) (jOK_node (jOK_node (jOK_leaf (sn_iconst dX0_plugIn_55 rfl rfl)) (jOK_leaf (sn_callV (Y' := Y_X4_restart) ok_X4_restart dX0_plugIn_56 rfl rfl rfl tw_423 tw_155 tw_156 tw_5 jc_X4_restart rfl ⟨by decide, by decide, rfl⟩ ⟨by decide, by decide⟩))) (jOK_node (jOK_leaf (sn_aload_n dX0_plugIn_59 rfl rfl)) (jOK_node (jOK_leaf (sn_callV (Y' := Y_X4_carsAtPosts) ok_X4_carsAtPosts dX0_plugIn_60 rfl rfl rfl tw_424 tw_425 tw_426 tw_5 jc_X4_carsAtPosts rfl ⟨by decide, by decide, rfl⟩ ⟨by decide, by decide⟩)) (jOK_leaf (sn_ireturn dX0_plugIn_63 rfl rfl))))))
def F_X0_plugIn_34_63 : Nat → jT := fun pc => bif Nat.blt pc 49 then F_X0_plugIn_34 pc else F_X0_plugIn_49 pc
theorem F_X0_plugIn_34_63_ok : jOK Y_X0_plugIn none (F_X0_plugIn_34_63) := jOK_node (F_X0_plugIn_34_ok) (F_X0_plugIn_49_ok)
def F_X0_plugIn_0_63 : Nat → jT := fun pc => bif Nat.blt pc 34 then F_X0_plugIn_0_33 pc else F_X0_plugIn_34_63 pc
theorem F_X0_plugIn_0_63_ok : jOK Y_X0_plugIn none (F_X0_plugIn_0_63) := jOK_node (F_X0_plugIn_0_33_ok) (F_X0_plugIn_34_63_ok)
def F_X0_plugIn : Nat → jT := F_X0_plugIn_0_63
theorem OK_X0_plugIn : jOK Y_X0_plugIn none (F_X0_plugIn) := F_X0_plugIn_0_63_ok
theorem ft_X0_plugIn_0 : F_X0_plugIn 0 = J_aload 0 1 := ftl_X0_plugIn_0
theorem ft_X0_plugIn_1 : F_X0_plugIn 1 = J_getfield 0 0 4 := ftl_X0_plugIn_1
theorem ft_X0_plugIn_4 : F_X0_plugIn 4 = J_iload 2 5 := ftl_X0_plugIn_4
theorem ft_X0_plugIn_5 : F_X0_plugIn 5 = J_callV 3 S_X3_hasPost 1 8 := ftl_X0_plugIn_5
theorem ft_X0_plugIn_8 : F_X0_plugIn 8 = J_ifeq 22 11 := ftl_X0_plugIn_8
theorem ft_X0_plugIn_11 : F_X0_plugIn 11 = J_aload 0 12 := ftl_X0_plugIn_11
theorem ft_X0_plugIn_12 : F_X0_plugIn 12 = J_getfield 0 0 15 := ftl_X0_plugIn_12
theorem ft_X0_plugIn_15 : F_X0_plugIn 15 = J_iload 3 16 := ftl_X0_plugIn_15
theorem ft_X0_plugIn_16 : F_X0_plugIn 16 = J_callV 3 S_X3_hasCar 1 19 := ftl_X0_plugIn_16
theorem ft_X0_plugIn_19 : F_X0_plugIn 19 = J_ifne 24 22 := ftl_X0_plugIn_19
theorem ft_X0_plugIn_22 : F_X0_plugIn 22 = J_iconst (-1) 23 := ftl_X0_plugIn_22
theorem ft_X0_plugIn_23 : F_X0_plugIn 23 = J_ireturn 0 0 := ftl_X0_plugIn_23
theorem ft_X0_plugIn_24 : F_X0_plugIn 24 = J_aload 1 25 := ftl_X0_plugIn_24
theorem ft_X0_plugIn_25 : F_X0_plugIn 25 = J_iload 2 26 := ftl_X0_plugIn_25
theorem ft_X0_plugIn_26 : F_X0_plugIn 26 = J_iconst 2 27 := ftl_X0_plugIn_26
theorem ft_X0_plugIn_27 : F_X0_plugIn 27 = J_callV 4 S_X4_get 2 30 := ftl_X0_plugIn_27
theorem ft_X0_plugIn_30 : F_X0_plugIn 30 = J_ifne 43 33 := ftl_X0_plugIn_30
theorem ft_X0_plugIn_33 : F_X0_plugIn 33 = J_aload 1 34 := ftl_X0_plugIn_33
theorem ft_X0_plugIn_34 : F_X0_plugIn 34 = J_iload 3 35 := ftl_X0_plugIn_34
theorem ft_X0_plugIn_35 : F_X0_plugIn 35 = J_callV 4 S_X4_postOf 1 38 := ftl_X0_plugIn_35
theorem ft_X0_plugIn_38 : F_X0_plugIn 38 = J_iconst (-9) 40 := ftl_X0_plugIn_38
theorem ft_X0_plugIn_40 : F_X0_plugIn 40 = J_iceq 46 43 := ftl_X0_plugIn_40
theorem ft_X0_plugIn_43 : F_X0_plugIn 43 = J_iconst (-3) 45 := ftl_X0_plugIn_43
theorem ft_X0_plugIn_45 : F_X0_plugIn 45 = J_ireturn 0 0 := ftl_X0_plugIn_45
theorem ft_X0_plugIn_46 : F_X0_plugIn 46 = J_aload 1 47 := ftl_X0_plugIn_46
theorem ft_X0_plugIn_47 : F_X0_plugIn 47 = J_iload 2 48 := ftl_X0_plugIn_47
theorem ft_X0_plugIn_48 : F_X0_plugIn 48 = J_iconst 1 49 := ftl_X0_plugIn_48
theorem ft_X0_plugIn_49 : F_X0_plugIn 49 = J_iload 3 50 := ftl_X0_plugIn_49
theorem ft_X0_plugIn_50 : F_X0_plugIn 50 = J_callV 4 S_X4_set 3 53 := ftl_X0_plugIn_50
theorem ft_X0_plugIn_53 : F_X0_plugIn 53 = J_aload 1 54 := ftl_X0_plugIn_53
theorem ft_X0_plugIn_54 : F_X0_plugIn 54 = J_iload 2 55 := ftl_X0_plugIn_54
theorem ft_X0_plugIn_55 : F_X0_plugIn 55 = J_iconst 1 56 := ftl_X0_plugIn_55
theorem ft_X0_plugIn_56 : F_X0_plugIn 56 = J_callV 4 S_X4_restart 2 59 := ftl_X0_plugIn_56
theorem ft_X0_plugIn_59 : F_X0_plugIn 59 = J_aload 1 60 := ftl_X0_plugIn_59
theorem ft_X0_plugIn_60 : F_X0_plugIn 60 = J_callV 4 S_X4_carsAtPosts 0 63 := ftl_X0_plugIn_60
theorem ft_X0_plugIn_63 : F_X0_plugIn 63 = J_ireturn 0 0 := ftl_X0_plugIn_63
def S_X0_plugIn : jSp := fun nb vs mem Q => jcs vs ≤ 4 ∧ jrun F_X0_plugIn [] 100 Q (fun _ _ _ _ _ => False) 0 (jargs vs ++ []) [] mem (nb, 0, 0)
theorem ok_X0_plugIn : jMeets Y_X0_plugIn S_X0_plugIn := fun _ _ _ _ h => Ok.inl OK_X0_plugIn 100 [] pn0 rfl h
theorem s_X0_plugIn {nb s : Nat} {C : Nat → Nat → Int32} {z : Nat → Int64} {p c : Int32} {Q : jQ} (h : jSt s 94) : S_X0_plugIn nb [.ref 6, .ref s, .int p, .int c] (memS 94 C z) Q = pick (okPost C p ∧ okCar C c) (pick (rget (C s) p 2 = 0 ∧ postOfF (C s) c = -9) (Q (some (.int (carsF (plugR (C s) p c)))) (memS 94 (hrow C s (plugR (C s) p c)) z)) (Q (some (.int (-3))) (memS 94 C z))) (Q (some (.int (-1))) (memS 94 C z)) := by
  refine (eq_le rfl).trans ?_
  simp -implicitDefEqProofs only [jr_0, jr_1, jr_2, j_iconst, j_lconst, j_iload0, j_aload0, j_istore0, j_astore0, j_iinc0, j_iload1, j_aload1, j_istore1, j_astore1, j_iinc1, j_iload2, j_aload2, j_istore2, j_astore2, j_iinc2, j_iload3, j_aload3, j_istore3, j_astore3, j_iinc3, j_iload4, j_aload4, j_istore4, j_astore4, j_iinc4, j_iload5, j_aload5, j_istore5, j_astore5, j_iinc5, j_iload6, j_aload6, j_istore6, j_astore6, j_iinc6, j_iload7, j_aload7, j_istore7, j_astore7, j_iinc7, j_iload8, j_aload8, j_istore8, j_astore8, j_iinc8, j_iadd, j_isub, j_imul, j_iand, j_ior, j_ixor, j_ishl, j_ishr, j_iushr, j_idiv, j_irem, j_ineg, j_ladd, j_lmul, j_land, j_lor, j_lcmp, j_lushr, j_lshl, j_i2l, j_l2i, j_dupI, j_dupR, j_popI, j_dup2, j_ifeq, j_iceq, j_ifne, j_icne, j_iflt, j_iclt, j_ifge, j_icge, j_ifgt, j_icgt, j_ifle, j_icle, j_goto, j_tsw, j_sw0, j_sw1, j_ireturn, j_zreturn, j_lreturn, j_return, j_getfield, j_putI, j_putJ, j_putR, j_iaload, j_baload, j_iastore, j_bastore, j_aaload, j_q, j_aastore, j_acopy, j_mmin, j_mmax, j_mabs, j_objinit, j_new, j_newI, j_newQ, j_sld, j_slen, j_callV0, j_callI0, j_callS0, j_callV1, j_callI1, j_callS1, j_callV2, j_callI2, j_callS2, j_callV3, j_callS3, j_callV4, j_callS4, j_callV5, j_callS5, j_pushS, j_pushN, j_sh0, j_sh1, j_sh2, j_sh3, j_sh4, Int32.reduceAdd, Int32.reduceMul, Int32.reduceSub, Int32.reduceLT, Int32.reduceLE, eq_self, i32_10, i32_01, ne_eq, hrow_s, hrow_n, ne10, ne100, ne1000, ne7, ne4, ne14, ne9973, or_true, true_or, or_false, false_or, not_true_eq_false, not_false_eq_true, false_implies, implies_true, and_true, forall_const, true_implies, jargs_n, jargs_r, jargs_i, List.cons_append, List.nil_append, true_and, Nat.reduceEqDiff, reduceIte, ft_X0_plugIn_0, ft_X0_plugIn_1, ft_X0_plugIn_4, ft_X0_plugIn_5, ft_X0_plugIn_8, ft_X0_plugIn_11, ft_X0_plugIn_12, ft_X0_plugIn_15, ft_X0_plugIn_16, ft_X0_plugIn_19, ft_X0_plugIn_22, ft_X0_plugIn_23, ft_X0_plugIn_24, ft_X0_plugIn_25, ft_X0_plugIn_26, ft_X0_plugIn_27, ft_X0_plugIn_30, ft_X0_plugIn_33, ft_X0_plugIn_34, ft_X0_plugIn_35, ft_X0_plugIn_38, ft_X0_plugIn_40, ft_X0_plugIn_43, ft_X0_plugIn_45, ft_X0_plugIn_46, ft_X0_plugIn_47, ft_X0_plugIn_48, ft_X0_plugIn_49, ft_X0_plugIn_50, ft_X0_plugIn_53, ft_X0_plugIn_54, ft_X0_plugIn_55, ft_X0_plugIn_56, ft_X0_plugIn_59, ft_X0_plugIn_60, ft_X0_plugIn_63, jrcv_st h, rc_3, fl_6_0, s_okPost jD94, s_okCar jD94, s_X4_get h, s_X4_set h, s_X4_postOf h, s_X4_restart h, s_X4_carsAtPosts h, zb_0, hrow_hrow]
  unfold plugR
  by_cases h1 : okPost C p <;> by_cases h2 : okCar C c <;> by_cases h3 : rget (C s) p 2 = 0 <;> by_cases h4 : postOfF (C s) c = -9 <;> simp [pick, h1, h2, h3, h4]
def pullR (ρ : Nat → Int32) (p : Int32) : Nat → Int32 := rstartF (rset ρ p 1 (-9)) p 0
def F_X0_pullOut_0 : Nat → jT := fun pc => (bif Nat.blt pc 13 then (bif Nat.blt pc 5 then (bif Nat.blt pc 1 then (bif Nat.beq pc 0 then J_aload 0 1 else jbad) else (bif Nat.blt pc 4 then (bif Nat.beq pc 1 then J_getfield 0 0 4 else jbad) else (bif Nat.beq pc 4 then J_iload 2 5 else jbad))) else (bif Nat.blt pc 11 then (bif Nat.blt pc 8 then (bif Nat.beq pc 5 then J_callV 3 S_X3_hasPost 1 8 else jbad) else (bif Nat.beq pc 8 then J_ifne 13 11 else jbad)) else (bif Nat.blt pc 12 then (bif Nat.beq pc 11 then J_iconst (-1) 12 else jbad) else (bif Nat.beq pc 12 then J_ireturn 0 0 else jbad)))) else (bif Nat.blt pc 16 then (bif Nat.blt pc 14 then (bif Nat.beq pc 13 then J_aload 1 14 else jbad) else (bif Nat.blt pc 15 then (bif Nat.beq pc 14 then J_iload 2 15 else jbad) else (bif Nat.beq pc 15 then J_iconst 1 16 else jbad))) else (bif Nat.blt pc 20 then (bif Nat.blt pc 19 then (bif Nat.beq pc 16 then J_callV 4 S_X4_get 2 19 else jbad) else (bif Nat.beq pc 19 then J_istore 3 20 else jbad)) else (bif Nat.blt pc 21 then (bif Nat.beq pc 20 then J_iload 3 21 else jbad) else (bif Nat.beq pc 21 then J_iconst (-9) 23 else jbad)))))
theorem ftl_X0_pullOut_0 : F_X0_pullOut_0 0 = J_aload 0 1 := rfl
theorem ftl_X0_pullOut_1 : F_X0_pullOut_0 1 = J_getfield 0 0 4 := rfl
theorem ftl_X0_pullOut_4 : F_X0_pullOut_0 4 = J_iload 2 5 := rfl
theorem ftl_X0_pullOut_5 : F_X0_pullOut_0 5 = J_callV 3 S_X3_hasPost 1 8 := rfl
theorem ftl_X0_pullOut_8 : F_X0_pullOut_0 8 = J_ifne 13 11 := rfl
theorem ftl_X0_pullOut_11 : F_X0_pullOut_0 11 = J_iconst (-1) 12 := rfl
theorem ftl_X0_pullOut_12 : F_X0_pullOut_0 12 = J_ireturn 0 0 := rfl
theorem ftl_X0_pullOut_13 : F_X0_pullOut_0 13 = J_aload 1 14 := rfl
theorem ftl_X0_pullOut_14 : F_X0_pullOut_0 14 = J_iload 2 15 := rfl
theorem ftl_X0_pullOut_15 : F_X0_pullOut_0 15 = J_iconst 1 16 := rfl
theorem ftl_X0_pullOut_16 : F_X0_pullOut_0 16 = J_callV 4 S_X4_get 2 19 := rfl
theorem ftl_X0_pullOut_19 : F_X0_pullOut_0 19 = J_istore 3 20 := rfl
theorem ftl_X0_pullOut_20 : F_X0_pullOut_0 20 = J_iload 3 21 := rfl
theorem ftl_X0_pullOut_21 : F_X0_pullOut_0 21 = J_iconst (-9) 23 := rfl
theorem F_X0_pullOut_0_ok : jOK Y_X0_pullOut none (F_X0_pullOut_0) := (jOK_node (jOK_node (jOK_node (jOK_leaf (sn_aload_n dX0_pullOut_0 rfl rfl)) (jOK_node (jOK_leaf (sn_getfield dX0_pullOut_1 rfl rfl (by decide) tw_73 jin0)) (jOK_leaf (sn_iload_n dX0_pullOut_4 rfl rfl)))) (jOK_node (jOK_node (jOK_leaf (sn_callV (Y' := Y_X3_hasPost) ok_X3_hasPost dX0_pullOut_5 rfl rfl rfl tw_420 tw_287 tw_288 tw_3 jc_X3_hasPost rfl ⟨by decide, by decide, rfl⟩ ⟨by decide, by decide⟩)) (jOK_leaf (sn_ifne dX0_pullOut_8 rfl rfl))) (jOK_node (jOK_leaf (sn_iconst dX0_pullOut_11 rfl rfl)) (jOK_leaf (sn_ireturn dX0_pullOut_12 rfl rfl))))) (jOK_node (jOK_node (jOK_leaf (sn_aload_n dX0_pullOut_13 rfl rfl)) (jOK_node (jOK_leaf (sn_iload_n dX0_pullOut_14 rfl rfl)) (jOK_leaf (sn_iconst dX0_pullOut_15 rfl rfl)))) (jOK_node (jOK_node (jOK_leaf (sn_callV (Y' := Y_X4_get) ok_X4_get dX0_pullOut_16 rfl rfl rfl tw_306 tw_267 tw_268 tw_5 jc_X4_get rfl ⟨by decide, by decide, rfl⟩ ⟨by decide, by decide⟩)) (jOK_leaf (sn_istore_n dX0_pullOut_19 rfl rfl (by decide)))) (jOK_node (jOK_leaf (sn_iload_n dX0_pullOut_20 rfl rfl)) (jOK_leaf (sn_bipush dX0_pullOut_21 rfl rfl))))))
def F_X0_pullOut_23 : Nat → jT := fun pc => (bif Nat.blt pc 34 then (bif Nat.blt pc 29 then (bif Nat.blt pc 26 then (bif Nat.beq pc 23 then J_icne 29 26 else jbad) else (bif Nat.blt pc 28 then (bif Nat.beq pc 26 then J_iconst (-3) 28 else jbad) else (bif Nat.beq pc 28 then J_ireturn 0 0 else jbad))) else (bif Nat.blt pc 31 then (bif Nat.blt pc 30 then (bif Nat.beq pc 29 then J_aload 1 30 else jbad) else (bif Nat.beq pc 30 then J_iload 2 31 else jbad)) else (bif Nat.blt pc 32 then (bif Nat.beq pc 31 then J_iconst 1 32 else jbad) else (bif Nat.beq pc 32 then J_iconst (-9) 34 else jbad)))) else (bif Nat.blt pc 39 then (bif Nat.blt pc 37 then (bif Nat.beq pc 34 then J_callV 4 S_X4_set 3 37 else jbad) else (bif Nat.blt pc 38 then (bif Nat.beq pc 37 then J_aload 1 38 else jbad) else (bif Nat.beq pc 38 then J_iload 2 39 else jbad))) else (bif Nat.blt pc 43 then (bif Nat.blt pc 40 then (bif Nat.beq pc 39 then J_iconst 0 40 else jbad) else (bif Nat.beq pc 40 then J_callV 4 S_X4_restart 2 43 else jbad)) else (bif Nat.blt pc 44 then (bif Nat.beq pc 43 then J_iload 3 44 else jbad) else (bif Nat.beq pc 44 then J_ireturn 0 0 else jbad)))))
theorem ftl_X0_pullOut_23 : F_X0_pullOut_23 23 = J_icne 29 26 := rfl
theorem ftl_X0_pullOut_26 : F_X0_pullOut_23 26 = J_iconst (-3) 28 := rfl
theorem ftl_X0_pullOut_28 : F_X0_pullOut_23 28 = J_ireturn 0 0 := rfl
theorem ftl_X0_pullOut_29 : F_X0_pullOut_23 29 = J_aload 1 30 := rfl
theorem ftl_X0_pullOut_30 : F_X0_pullOut_23 30 = J_iload 2 31 := rfl
theorem ftl_X0_pullOut_31 : F_X0_pullOut_23 31 = J_iconst 1 32 := rfl
theorem ftl_X0_pullOut_32 : F_X0_pullOut_23 32 = J_iconst (-9) 34 := rfl
theorem ftl_X0_pullOut_34 : F_X0_pullOut_23 34 = J_callV 4 S_X4_set 3 37 := rfl
theorem ftl_X0_pullOut_37 : F_X0_pullOut_23 37 = J_aload 1 38 := rfl
theorem ftl_X0_pullOut_38 : F_X0_pullOut_23 38 = J_iload 2 39 := rfl
theorem ftl_X0_pullOut_39 : F_X0_pullOut_23 39 = J_iconst 0 40 := rfl
theorem ftl_X0_pullOut_40 : F_X0_pullOut_23 40 = J_callV 4 S_X4_restart 2 43 := rfl
theorem ftl_X0_pullOut_43 : F_X0_pullOut_23 43 = J_iload 3 44 := rfl
theorem ftl_X0_pullOut_44 : F_X0_pullOut_23 44 = J_ireturn 0 0 := rfl
theorem F_X0_pullOut_23_ok : jOK Y_X0_pullOut none (F_X0_pullOut_23) := (jOK_node (jOK_node (jOK_node (jOK_leaf (sn_icne dX0_pullOut_23 rfl rfl)) (jOK_node (jOK_leaf (sn_bipush dX0_pullOut_26 rfl rfl)) (jOK_leaf (sn_ireturn dX0_pullOut_28 rfl rfl)))) (jOK_node (jOK_node (jOK_leaf (sn_aload_n dX0_pullOut_29 rfl rfl)) (jOK_leaf (sn_iload_n dX0_pullOut_30 rfl rfl))) (jOK_node (jOK_leaf (sn_iconst dX0_pullOut_31 rfl rfl)) (jOK_leaf (sn_bipush dX0_pullOut_32 rfl rfl))))) (jOK_node (jOK_node (jOK_leaf (sn_callV (Y' := Y_X4_set) ok_X4_set dX0_pullOut_34 rfl rfl rfl tw_358 tw_151 tw_152 tw_5 jc_X4_set rfl ⟨by decide, by decide, rfl⟩ ⟨by decide, by decide⟩)) (jOK_node (jOK_leaf (sn_aload_n dX0_pullOut_37 rfl rfl)) (jOK_leaf (sn_iload_n dX0_pullOut_38 rfl rfl)))) (jOK_node (jOK_node (jOK_leaf (sn_iconst dX0_pullOut_39 rfl rfl)) (jOK_leaf (sn_callV (Y' := Y_X4_restart) ok_X4_restart dX0_pullOut_40 rfl rfl rfl tw_423 tw_155 tw_156 tw_5 jc_X4_restart rfl ⟨by decide, by decide, rfl⟩ ⟨by decide, by decide⟩))) (jOK_node (jOK_leaf (sn_iload_n dX0_pullOut_43 rfl rfl)) (jOK_leaf (sn_ireturn dX0_pullOut_44 rfl rfl))))))
def F_X0_pullOut_0_44 : Nat → jT := fun pc => bif Nat.blt pc 23 then F_X0_pullOut_0 pc else F_X0_pullOut_23 pc
theorem F_X0_pullOut_0_44_ok : jOK Y_X0_pullOut none (F_X0_pullOut_0_44) := jOK_node (F_X0_pullOut_0_ok) (F_X0_pullOut_23_ok)
def F_X0_pullOut : Nat → jT := F_X0_pullOut_0_44
theorem OK_X0_pullOut : jOK Y_X0_pullOut none (F_X0_pullOut) := F_X0_pullOut_0_44_ok
theorem ft_X0_pullOut_0 : F_X0_pullOut 0 = J_aload 0 1 := ftl_X0_pullOut_0
theorem ft_X0_pullOut_1 : F_X0_pullOut 1 = J_getfield 0 0 4 := ftl_X0_pullOut_1
theorem ft_X0_pullOut_4 : F_X0_pullOut 4 = J_iload 2 5 := ftl_X0_pullOut_4
theorem ft_X0_pullOut_5 : F_X0_pullOut 5 = J_callV 3 S_X3_hasPost 1 8 := ftl_X0_pullOut_5
theorem ft_X0_pullOut_8 : F_X0_pullOut 8 = J_ifne 13 11 := ftl_X0_pullOut_8
theorem ft_X0_pullOut_11 : F_X0_pullOut 11 = J_iconst (-1) 12 := ftl_X0_pullOut_11
theorem ft_X0_pullOut_12 : F_X0_pullOut 12 = J_ireturn 0 0 := ftl_X0_pullOut_12
theorem ft_X0_pullOut_13 : F_X0_pullOut 13 = J_aload 1 14 := ftl_X0_pullOut_13
theorem ft_X0_pullOut_14 : F_X0_pullOut 14 = J_iload 2 15 := ftl_X0_pullOut_14
theorem ft_X0_pullOut_15 : F_X0_pullOut 15 = J_iconst 1 16 := ftl_X0_pullOut_15
theorem ft_X0_pullOut_16 : F_X0_pullOut 16 = J_callV 4 S_X4_get 2 19 := ftl_X0_pullOut_16
theorem ft_X0_pullOut_19 : F_X0_pullOut 19 = J_istore 3 20 := ftl_X0_pullOut_19
theorem ft_X0_pullOut_20 : F_X0_pullOut 20 = J_iload 3 21 := ftl_X0_pullOut_20
theorem ft_X0_pullOut_21 : F_X0_pullOut 21 = J_iconst (-9) 23 := ftl_X0_pullOut_21
theorem ft_X0_pullOut_23 : F_X0_pullOut 23 = J_icne 29 26 := ftl_X0_pullOut_23
theorem ft_X0_pullOut_26 : F_X0_pullOut 26 = J_iconst (-3) 28 := ftl_X0_pullOut_26
theorem ft_X0_pullOut_28 : F_X0_pullOut 28 = J_ireturn 0 0 := ftl_X0_pullOut_28
theorem ft_X0_pullOut_29 : F_X0_pullOut 29 = J_aload 1 30 := ftl_X0_pullOut_29
theorem ft_X0_pullOut_30 : F_X0_pullOut 30 = J_iload 2 31 := ftl_X0_pullOut_30
theorem ft_X0_pullOut_31 : F_X0_pullOut 31 = J_iconst 1 32 := ftl_X0_pullOut_31
theorem ft_X0_pullOut_32 : F_X0_pullOut 32 = J_iconst (-9) 34 := ftl_X0_pullOut_32
theorem ft_X0_pullOut_34 : F_X0_pullOut 34 = J_callV 4 S_X4_set 3 37 := ftl_X0_pullOut_34
theorem ft_X0_pullOut_37 : F_X0_pullOut 37 = J_aload 1 38 := ftl_X0_pullOut_37
theorem ft_X0_pullOut_38 : F_X0_pullOut 38 = J_iload 2 39 := ftl_X0_pullOut_38
theorem ft_X0_pullOut_39 : F_X0_pullOut 39 = J_iconst 0 40 := ftl_X0_pullOut_39
theorem ft_X0_pullOut_40 : F_X0_pullOut 40 = J_callV 4 S_X4_restart 2 43 := ftl_X0_pullOut_40
theorem ft_X0_pullOut_43 : F_X0_pullOut 43 = J_iload 3 44 := ftl_X0_pullOut_43
theorem ft_X0_pullOut_44 : F_X0_pullOut 44 = J_ireturn 0 0 := ftl_X0_pullOut_44
def S_X0_pullOut : jSp := fun nb vs mem Q => jcs vs ≤ 4 ∧ jrun F_X0_pullOut [] 100 Q (fun _ _ _ _ _ => False) 0 (jargs vs ++ [none]) [] mem (nb, 0, 0)
theorem ok_X0_pullOut : jMeets Y_X0_pullOut S_X0_pullOut := fun _ _ _ _ h => Ok.inl OK_X0_pullOut 100 [none] pn0 rfl h
theorem s_X0_pullOut {nb s : Nat} {C : Nat → Nat → Int32} {z : Nat → Int64} {p : Int32} {Q : jQ} (h : jSt s 94) : S_X0_pullOut nb [.ref 6, .ref s, .int p] (memS 94 C z) Q = pick (okPost C p) (pick (rget (C s) p 1 = -9) (Q (some (.int (-3))) (memS 94 C z)) (Q (some (.int (rget (C s) p 1))) (memS 94 (hrow C s (pullR (C s) p)) z))) (Q (some (.int (-1))) (memS 94 C z)) := by
  refine (eq_le rfl).trans ?_
  simp -implicitDefEqProofs only [jr_0, jr_1, jr_2, j_iconst, j_lconst, j_iload0, j_aload0, j_istore0, j_astore0, j_iinc0, j_iload1, j_aload1, j_istore1, j_astore1, j_iinc1, j_iload2, j_aload2, j_istore2, j_astore2, j_iinc2, j_iload3, j_aload3, j_istore3, j_astore3, j_iinc3, j_iload4, j_aload4, j_istore4, j_astore4, j_iinc4, j_iload5, j_aload5, j_istore5, j_astore5, j_iinc5, j_iload6, j_aload6, j_istore6, j_astore6, j_iinc6, j_iload7, j_aload7, j_istore7, j_astore7, j_iinc7, j_iload8, j_aload8, j_istore8, j_astore8, j_iinc8, j_iadd, j_isub, j_imul, j_iand, j_ior, j_ixor, j_ishl, j_ishr, j_iushr, j_idiv, j_irem, j_ineg, j_ladd, j_lmul, j_land, j_lor, j_lcmp, j_lushr, j_lshl, j_i2l, j_l2i, j_dupI, j_dupR, j_popI, j_dup2, j_ifeq, j_iceq, j_ifne, j_icne, j_iflt, j_iclt, j_ifge, j_icge, j_ifgt, j_icgt, j_ifle, j_icle, j_goto, j_tsw, j_sw0, j_sw1, j_ireturn, j_zreturn, j_lreturn, j_return, j_getfield, j_putI, j_putJ, j_putR, j_iaload, j_baload, j_iastore, j_bastore, j_aaload, j_q, j_aastore, j_acopy, j_mmin, j_mmax, j_mabs, j_objinit, j_new, j_newI, j_newQ, j_sld, j_slen, j_callV0, j_callI0, j_callS0, j_callV1, j_callI1, j_callS1, j_callV2, j_callI2, j_callS2, j_callV3, j_callS3, j_callV4, j_callS4, j_callV5, j_callS5, j_pushS, j_pushN, j_sh0, j_sh1, j_sh2, j_sh3, j_sh4, Int32.reduceAdd, Int32.reduceMul, Int32.reduceSub, Int32.reduceLT, Int32.reduceLE, eq_self, i32_10, i32_01, ne_eq, hrow_s, hrow_n, ne10, ne100, ne1000, ne7, ne4, ne14, ne9973, or_true, true_or, or_false, false_or, not_true_eq_false, not_false_eq_true, false_implies, implies_true, and_true, forall_const, true_implies, jargs_n, jargs_r, jargs_i, List.cons_append, List.nil_append, true_and, Nat.reduceEqDiff, reduceIte, ft_X0_pullOut_0, ft_X0_pullOut_1, ft_X0_pullOut_4, ft_X0_pullOut_5, ft_X0_pullOut_8, ft_X0_pullOut_11, ft_X0_pullOut_12, ft_X0_pullOut_13, ft_X0_pullOut_14, ft_X0_pullOut_15, ft_X0_pullOut_16, ft_X0_pullOut_19, ft_X0_pullOut_20, ft_X0_pullOut_21, ft_X0_pullOut_23, ft_X0_pullOut_26, ft_X0_pullOut_28, ft_X0_pullOut_29, ft_X0_pullOut_30, ft_X0_pullOut_31, ft_X0_pullOut_32, ft_X0_pullOut_34, ft_X0_pullOut_37, ft_X0_pullOut_38, ft_X0_pullOut_39, ft_X0_pullOut_40, ft_X0_pullOut_43, ft_X0_pullOut_44, jrcv_st h, rc_3, fl_6_0, s_okPost jD94, s_X4_get h, s_X4_set h, s_X4_restart h, zb_0, hrow_hrow]
  unfold pullR
  by_cases h1 : okPost C p <;> by_cases h2 : rget (C s) p 1 = -9 <;> simp [pick, h1, h2]
noncomputable def climbF (ρ : Nat → Int32) (p m : Int32) : Nat → Int32 := pick (rget ρ p 2 = 1 ∧ rget ρ p 3 = m) (pick (m = 3) (rset (rset ρ p 3 (m + 1)) p 2 2) (rset ρ p 3 (m + 1))) (rset ρ p 2 4)
def F_X0_climb_0 : Nat → jT := fun pc => (bif Nat.blt pc 6 then (bif Nat.blt pc 2 then (bif Nat.blt pc 1 then (bif Nat.beq pc 0 then J_aload 1 1 else jbad) else (bif Nat.beq pc 1 then J_iload 2 2 else jbad)) else (bif Nat.blt pc 3 then (bif Nat.beq pc 2 then J_iconst 2 3 else jbad) else (bif Nat.beq pc 3 then J_callV 4 S_X4_get 2 6 else jbad))) else (bif Nat.blt pc 10 then (bif Nat.blt pc 7 then (bif Nat.beq pc 6 then J_iconst 1 7 else jbad) else (bif Nat.beq pc 7 then J_icne 20 10 else jbad)) else (bif Nat.blt pc 11 then (bif Nat.beq pc 10 then J_aload 1 11 else jbad) else (bif Nat.beq pc 11 then J_iload 2 12 else jbad))))
theorem ftl_X0_climb_0 : F_X0_climb_0 0 = J_aload 1 1 := rfl
theorem ftl_X0_climb_1 : F_X0_climb_0 1 = J_iload 2 2 := rfl
theorem ftl_X0_climb_2 : F_X0_climb_0 2 = J_iconst 2 3 := rfl
theorem ftl_X0_climb_3 : F_X0_climb_0 3 = J_callV 4 S_X4_get 2 6 := rfl
theorem ftl_X0_climb_6 : F_X0_climb_0 6 = J_iconst 1 7 := rfl
theorem ftl_X0_climb_7 : F_X0_climb_0 7 = J_icne 20 10 := rfl
theorem ftl_X0_climb_10 : F_X0_climb_0 10 = J_aload 1 11 := rfl
theorem ftl_X0_climb_11 : F_X0_climb_0 11 = J_iload 2 12 := rfl
theorem F_X0_climb_0_ok : jOK Y_X0_climb none (F_X0_climb_0) := (jOK_node (jOK_node (jOK_node (jOK_leaf (sn_aload_n dX0_climb_0 rfl rfl)) (jOK_leaf (sn_iload_n dX0_climb_1 rfl rfl))) (jOK_node (jOK_leaf (sn_iconst dX0_climb_2 rfl rfl)) (jOK_leaf (sn_callV (Y' := Y_X4_get) ok_X4_get dX0_climb_3 rfl rfl rfl tw_306 tw_267 tw_268 tw_5 jc_X4_get rfl ⟨by decide, by decide, rfl⟩ ⟨by decide, by decide⟩)))) (jOK_node (jOK_node (jOK_leaf (sn_iconst dX0_climb_6 rfl rfl)) (jOK_leaf (sn_icne dX0_climb_7 rfl rfl))) (jOK_node (jOK_leaf (sn_aload_n dX0_climb_10 rfl rfl)) (jOK_leaf (sn_iload_n dX0_climb_11 rfl rfl)))))
def F_X0_climb_12 : Nat → jT := fun pc => (bif Nat.blt pc 20 then (bif Nat.blt pc 16 then (bif Nat.blt pc 13 then (bif Nat.beq pc 12 then J_iconst 3 13 else jbad) else (bif Nat.beq pc 13 then J_callV 4 S_X4_get 2 16 else jbad)) else (bif Nat.blt pc 17 then (bif Nat.beq pc 16 then J_iload 3 17 else jbad) else (bif Nat.beq pc 17 then J_iceq 28 20 else jbad))) else (bif Nat.blt pc 22 then (bif Nat.blt pc 21 then (bif Nat.beq pc 20 then J_aload 1 21 else jbad) else (bif Nat.beq pc 21 then J_iload 2 22 else jbad)) else (bif Nat.blt pc 23 then (bif Nat.beq pc 22 then J_iconst 2 23 else jbad) else (bif Nat.blt pc 24 then (bif Nat.beq pc 23 then J_iconst 4 24 else jbad) else (bif Nat.beq pc 24 then J_callV 4 S_X4_set 3 27 else jbad)))))
theorem ftl_X0_climb_12 : F_X0_climb_12 12 = J_iconst 3 13 := rfl
theorem ftl_X0_climb_13 : F_X0_climb_12 13 = J_callV 4 S_X4_get 2 16 := rfl
theorem ftl_X0_climb_16 : F_X0_climb_12 16 = J_iload 3 17 := rfl
theorem ftl_X0_climb_17 : F_X0_climb_12 17 = J_iceq 28 20 := rfl
theorem ftl_X0_climb_20 : F_X0_climb_12 20 = J_aload 1 21 := rfl
theorem ftl_X0_climb_21 : F_X0_climb_12 21 = J_iload 2 22 := rfl
theorem ftl_X0_climb_22 : F_X0_climb_12 22 = J_iconst 2 23 := rfl
theorem ftl_X0_climb_23 : F_X0_climb_12 23 = J_iconst 4 24 := rfl
theorem ftl_X0_climb_24 : F_X0_climb_12 24 = J_callV 4 S_X4_set 3 27 := rfl
theorem F_X0_climb_12_ok : jOK Y_X0_climb none (F_X0_climb_12) := (jOK_node (jOK_node (jOK_node (jOK_leaf (sn_iconst dX0_climb_12 rfl rfl)) (jOK_leaf (sn_callV (Y' := Y_X4_get) ok_X4_get dX0_climb_13 rfl rfl rfl tw_306 tw_267 tw_268 tw_5 jc_X4_get rfl ⟨by decide, by decide, rfl⟩ ⟨by decide, by decide⟩))) (jOK_node (jOK_leaf (sn_iload_n dX0_climb_16 rfl rfl)) (jOK_leaf (sn_iceq dX0_climb_17 rfl rfl)))) (jOK_node (jOK_node (jOK_leaf (sn_aload_n dX0_climb_20 rfl rfl)) (jOK_leaf (sn_iload_n dX0_climb_21 rfl rfl))) (jOK_node (jOK_leaf (sn_iconst dX0_climb_22 rfl rfl)) (jOK_node (jOK_leaf (sn_iconst dX0_climb_23 rfl rfl)) (jOK_leaf (sn_callV (Y' := Y_X4_set) ok_X4_set dX0_climb_24 rfl rfl rfl tw_358 tw_151 tw_152 tw_5 jc_X4_set rfl ⟨by decide, by decide, rfl⟩ ⟨by decide, by decide⟩))))))
def F_X0_climb_0_24 : Nat → jT := fun pc => bif Nat.blt pc 12 then F_X0_climb_0 pc else F_X0_climb_12 pc
theorem F_X0_climb_0_24_ok : jOK Y_X0_climb none (F_X0_climb_0_24) := jOK_node (F_X0_climb_0_ok) (F_X0_climb_12_ok)
def F_X0_climb_27 : Nat → jT := fun pc => (bif Nat.blt pc 31 then (bif Nat.blt pc 29 then (bif Nat.blt pc 28 then (bif Nat.beq pc 27 then J_return 0 0 else jbad) else (bif Nat.beq pc 28 then J_aload 1 29 else jbad)) else (bif Nat.blt pc 30 then (bif Nat.beq pc 29 then J_iload 2 30 else jbad) else (bif Nat.beq pc 30 then J_iconst 3 31 else jbad))) else (bif Nat.blt pc 33 then (bif Nat.blt pc 32 then (bif Nat.beq pc 31 then J_iload 3 32 else jbad) else (bif Nat.beq pc 32 then J_iconst 1 33 else jbad)) else (bif Nat.blt pc 34 then (bif Nat.beq pc 33 then J_iadd 34 else jbad) else (bif Nat.beq pc 34 then J_callV 4 S_X4_set 3 37 else jbad))))
theorem ftl_X0_climb_27 : F_X0_climb_27 27 = J_return 0 0 := rfl
theorem ftl_X0_climb_28 : F_X0_climb_27 28 = J_aload 1 29 := rfl
theorem ftl_X0_climb_29 : F_X0_climb_27 29 = J_iload 2 30 := rfl
theorem ftl_X0_climb_30 : F_X0_climb_27 30 = J_iconst 3 31 := rfl
theorem ftl_X0_climb_31 : F_X0_climb_27 31 = J_iload 3 32 := rfl
theorem ftl_X0_climb_32 : F_X0_climb_27 32 = J_iconst 1 33 := rfl
theorem ftl_X0_climb_33 : F_X0_climb_27 33 = J_iadd 34 := rfl
theorem ftl_X0_climb_34 : F_X0_climb_27 34 = J_callV 4 S_X4_set 3 37 := rfl
theorem F_X0_climb_27_ok : jOK Y_X0_climb none (F_X0_climb_27) := (jOK_node (jOK_node (jOK_node (jOK_leaf (sn_return dX0_climb_27 rfl rfl)) (jOK_leaf (sn_aload_n dX0_climb_28 rfl rfl))) (jOK_node (jOK_leaf (sn_iload_n dX0_climb_29 rfl rfl)) (jOK_leaf (sn_iconst dX0_climb_30 rfl rfl)))) (jOK_node (jOK_node (jOK_leaf (sn_iload_n dX0_climb_31 rfl rfl)) (jOK_leaf (sn_iconst dX0_climb_32 rfl rfl))) (jOK_node (jOK_leaf (sn_iadd dX0_climb_33 rfl)) (jOK_leaf (sn_callV (Y' := Y_X4_set) ok_X4_set dX0_climb_34 rfl rfl rfl tw_358 tw_151 tw_152 tw_5 jc_X4_set rfl ⟨by decide, by decide, rfl⟩ ⟨by decide, by decide⟩)))))
def F_X0_climb_37 : Nat → jT := fun pc => (bif Nat.blt pc 43 then (bif Nat.blt pc 39 then (bif Nat.blt pc 38 then (bif Nat.beq pc 37 then J_iload 3 38 else jbad) else (bif Nat.beq pc 38 then J_iconst 3 39 else jbad)) else (bif Nat.blt pc 42 then (bif Nat.beq pc 39 then J_icne 49 42 else jbad) else (bif Nat.beq pc 42 then J_aload 1 43 else jbad))) else (bif Nat.blt pc 45 then (bif Nat.blt pc 44 then (bif Nat.beq pc 43 then J_iload 2 44 else jbad) else (bif Nat.beq pc 44 then J_iconst 2 45 else jbad)) else (bif Nat.blt pc 46 then (bif Nat.beq pc 45 then J_iconst 2 46 else jbad) else (bif Nat.blt pc 49 then (bif Nat.beq pc 46 then J_callV 4 S_X4_set 3 49 else jbad) else (bif Nat.beq pc 49 then J_return 0 0 else jbad)))))
theorem ftl_X0_climb_37 : F_X0_climb_37 37 = J_iload 3 38 := rfl
theorem ftl_X0_climb_38 : F_X0_climb_37 38 = J_iconst 3 39 := rfl
theorem ftl_X0_climb_39 : F_X0_climb_37 39 = J_icne 49 42 := rfl
theorem ftl_X0_climb_42 : F_X0_climb_37 42 = J_aload 1 43 := rfl
theorem ftl_X0_climb_43 : F_X0_climb_37 43 = J_iload 2 44 := rfl
theorem ftl_X0_climb_44 : F_X0_climb_37 44 = J_iconst 2 45 := rfl
theorem ftl_X0_climb_45 : F_X0_climb_37 45 = J_iconst 2 46 := rfl
theorem ftl_X0_climb_46 : F_X0_climb_37 46 = J_callV 4 S_X4_set 3 49 := rfl
theorem ftl_X0_climb_49 : F_X0_climb_37 49 = J_return 0 0 := rfl
theorem F_X0_climb_37_ok : jOK Y_X0_climb none (F_X0_climb_37) := (jOK_node (jOK_node (jOK_node (jOK_leaf (sn_iload_n dX0_climb_37 rfl rfl)) (jOK_leaf (sn_iconst dX0_climb_38 rfl rfl))) (jOK_node (jOK_leaf (sn_icne dX0_climb_39 rfl rfl)) (jOK_leaf (sn_aload_n dX0_climb_42 rfl rfl)))) (jOK_node (jOK_node (jOK_leaf (sn_iload_n dX0_climb_43 rfl rfl)) (jOK_leaf (sn_iconst dX0_climb_44 rfl rfl))) (jOK_node (jOK_leaf (sn_iconst dX0_climb_45 rfl rfl)) (jOK_node (jOK_leaf (sn_callV (Y' := Y_X4_set) ok_X4_set dX0_climb_46 rfl rfl rfl tw_358 tw_151 tw_152 tw_5 jc_X4_set rfl ⟨by decide, by decide, rfl⟩ ⟨by decide, by decide⟩)) (jOK_leaf (sn_return dX0_climb_49 rfl rfl))))))
def F_X0_climb_27_49 : Nat → jT := fun pc => bif Nat.blt pc 37 then F_X0_climb_27 pc else F_X0_climb_37 pc
theorem F_X0_climb_27_49_ok : jOK Y_X0_climb none (F_X0_climb_27_49) := jOK_node (F_X0_climb_27_ok) (F_X0_climb_37_ok)
def F_X0_climb_0_49 : Nat → jT := fun pc => bif Nat.blt pc 27 then F_X0_climb_0_24 pc else F_X0_climb_27_49 pc
theorem F_X0_climb_0_49_ok : jOK Y_X0_climb none (F_X0_climb_0_49) := jOK_node (F_X0_climb_0_24_ok) (F_X0_climb_27_49_ok)
def F_X0_climb : Nat → jT := F_X0_climb_0_49
theorem OK_X0_climb : jOK Y_X0_climb none (F_X0_climb) := F_X0_climb_0_49_ok
theorem ft_X0_climb_0 : F_X0_climb 0 = J_aload 1 1 := ftl_X0_climb_0
theorem ft_X0_climb_1 : F_X0_climb 1 = J_iload 2 2 := ftl_X0_climb_1
theorem ft_X0_climb_2 : F_X0_climb 2 = J_iconst 2 3 := ftl_X0_climb_2
theorem ft_X0_climb_3 : F_X0_climb 3 = J_callV 4 S_X4_get 2 6 := ftl_X0_climb_3
theorem ft_X0_climb_6 : F_X0_climb 6 = J_iconst 1 7 := ftl_X0_climb_6
theorem ft_X0_climb_7 : F_X0_climb 7 = J_icne 20 10 := ftl_X0_climb_7
theorem ft_X0_climb_10 : F_X0_climb 10 = J_aload 1 11 := ftl_X0_climb_10
theorem ft_X0_climb_11 : F_X0_climb 11 = J_iload 2 12 := ftl_X0_climb_11
theorem ft_X0_climb_12 : F_X0_climb 12 = J_iconst 3 13 := ftl_X0_climb_12
theorem ft_X0_climb_13 : F_X0_climb 13 = J_callV 4 S_X4_get 2 16 := ftl_X0_climb_13
theorem ft_X0_climb_16 : F_X0_climb 16 = J_iload 3 17 := ftl_X0_climb_16
theorem ft_X0_climb_17 : F_X0_climb 17 = J_iceq 28 20 := ftl_X0_climb_17
theorem ft_X0_climb_20 : F_X0_climb 20 = J_aload 1 21 := ftl_X0_climb_20
theorem ft_X0_climb_21 : F_X0_climb 21 = J_iload 2 22 := ftl_X0_climb_21
theorem ft_X0_climb_22 : F_X0_climb 22 = J_iconst 2 23 := ftl_X0_climb_22
theorem ft_X0_climb_23 : F_X0_climb 23 = J_iconst 4 24 := ftl_X0_climb_23
theorem ft_X0_climb_24 : F_X0_climb 24 = J_callV 4 S_X4_set 3 27 := ftl_X0_climb_24
theorem ft_X0_climb_27 : F_X0_climb 27 = J_return 0 0 := ftl_X0_climb_27
theorem ft_X0_climb_28 : F_X0_climb 28 = J_aload 1 29 := ftl_X0_climb_28
theorem ft_X0_climb_29 : F_X0_climb 29 = J_iload 2 30 := ftl_X0_climb_29
theorem ft_X0_climb_30 : F_X0_climb 30 = J_iconst 3 31 := ftl_X0_climb_30
theorem ft_X0_climb_31 : F_X0_climb 31 = J_iload 3 32 := ftl_X0_climb_31
theorem ft_X0_climb_32 : F_X0_climb 32 = J_iconst 1 33 := ftl_X0_climb_32
theorem ft_X0_climb_33 : F_X0_climb 33 = J_iadd 34 := ftl_X0_climb_33
theorem ft_X0_climb_34 : F_X0_climb 34 = J_callV 4 S_X4_set 3 37 := ftl_X0_climb_34
theorem ft_X0_climb_37 : F_X0_climb 37 = J_iload 3 38 := ftl_X0_climb_37
theorem ft_X0_climb_38 : F_X0_climb 38 = J_iconst 3 39 := ftl_X0_climb_38
theorem ft_X0_climb_39 : F_X0_climb 39 = J_icne 49 42 := ftl_X0_climb_39
theorem ft_X0_climb_42 : F_X0_climb 42 = J_aload 1 43 := ftl_X0_climb_42
theorem ft_X0_climb_43 : F_X0_climb 43 = J_iload 2 44 := ftl_X0_climb_43
theorem ft_X0_climb_44 : F_X0_climb 44 = J_iconst 2 45 := ftl_X0_climb_44
theorem ft_X0_climb_45 : F_X0_climb 45 = J_iconst 2 46 := ftl_X0_climb_45
theorem ft_X0_climb_46 : F_X0_climb 46 = J_callV 4 S_X4_set 3 49 := ftl_X0_climb_46
theorem ft_X0_climb_49 : F_X0_climb 49 = J_return 0 0 := ftl_X0_climb_49
def S_X0_climb : jSp := fun nb vs mem Q => jcs vs ≤ 4 ∧ jrun F_X0_climb [] 80 Q (fun _ _ _ _ _ => False) 0 (jargs vs ++ []) [] mem (nb, 0, 0)
theorem ok_X0_climb : jMeets Y_X0_climb S_X0_climb := fun _ _ _ _ h => Ok.inl OK_X0_climb 80 [] pn0 rfl h
theorem s_X0_climb {nb s : Nat} {C : Nat → Nat → Int32} {z : Nat → Int64} {p m : Int32} {Q : jQ} (h : jSt s 94) : S_X0_climb nb [.ref 6, .ref s, .int p, .int m] (memS 94 C z) Q = Q none (memS 94 (hrow C s (climbF (C s) p m)) z) := by
  refine (eq_le rfl).trans ?_
  simp -implicitDefEqProofs only [jr_0, jr_1, jr_2, j_iconst, j_lconst, j_iload0, j_aload0, j_istore0, j_astore0, j_iinc0, j_iload1, j_aload1, j_istore1, j_astore1, j_iinc1, j_iload2, j_aload2, j_istore2, j_astore2, j_iinc2, j_iload3, j_aload3, j_istore3, j_astore3, j_iinc3, j_iload4, j_aload4, j_istore4, j_astore4, j_iinc4, j_iload5, j_aload5, j_istore5, j_astore5, j_iinc5, j_iload6, j_aload6, j_istore6, j_astore6, j_iinc6, j_iload7, j_aload7, j_istore7, j_astore7, j_iinc7, j_iload8, j_aload8, j_istore8, j_astore8, j_iinc8, j_iadd, j_isub, j_imul, j_iand, j_ior, j_ixor, j_ishl, j_ishr, j_iushr, j_idiv, j_irem, j_ineg, j_ladd, j_lmul, j_land, j_lor, j_lcmp, j_lushr, j_lshl, j_i2l, j_l2i, j_dupI, j_dupR, j_popI, j_dup2, j_ifeq, j_iceq, j_ifne, j_icne, j_iflt, j_iclt, j_ifge, j_icge, j_ifgt, j_icgt, j_ifle, j_icle, j_goto, j_tsw, j_sw0, j_sw1, j_ireturn, j_zreturn, j_lreturn, j_return, j_getfield, j_putI, j_putJ, j_putR, j_iaload, j_baload, j_iastore, j_bastore, j_aaload, j_q, j_aastore, j_acopy, j_mmin, j_mmax, j_mabs, j_objinit, j_new, j_newI, j_newQ, j_sld, j_slen, j_callV0, j_callI0, j_callS0, j_callV1, j_callI1, j_callS1, j_callV2, j_callI2, j_callS2, j_callV3, j_callS3, j_callV4, j_callS4, j_callV5, j_callS5, j_pushS, j_pushN, j_sh0, j_sh1, j_sh2, j_sh3, j_sh4, Int32.reduceAdd, Int32.reduceMul, Int32.reduceSub, Int32.reduceLT, Int32.reduceLE, eq_self, i32_10, i32_01, ne_eq, hrow_s, hrow_n, ne10, ne100, ne1000, ne7, ne4, ne14, ne9973, or_true, true_or, or_false, false_or, not_true_eq_false, not_false_eq_true, false_implies, implies_true, and_true, forall_const, true_implies, jargs_n, jargs_r, jargs_i, List.cons_append, List.nil_append, true_and, Nat.reduceEqDiff, reduceIte, ft_X0_climb_0, ft_X0_climb_1, ft_X0_climb_2, ft_X0_climb_3, ft_X0_climb_6, ft_X0_climb_7, ft_X0_climb_10, ft_X0_climb_11, ft_X0_climb_12, ft_X0_climb_13, ft_X0_climb_16, ft_X0_climb_17, ft_X0_climb_20, ft_X0_climb_21, ft_X0_climb_22, ft_X0_climb_23, ft_X0_climb_24, ft_X0_climb_27, ft_X0_climb_28, ft_X0_climb_29, ft_X0_climb_30, ft_X0_climb_31, ft_X0_climb_32, ft_X0_climb_33, ft_X0_climb_34, ft_X0_climb_37, ft_X0_climb_38, ft_X0_climb_39, ft_X0_climb_42, ft_X0_climb_43, ft_X0_climb_44, ft_X0_climb_45, ft_X0_climb_46, ft_X0_climb_49, jrcv_st h, s_X4_get h, s_X4_set h, hrow_hrow]
  unfold climbF
  generalize (rget (C s) p 3 = m) = b
  by_cases h1 : rget (C s) p 2 = 1 <;> by_cases h2 : b <;> by_cases h3 : m = 3 <;> simp [pick, h1, h2, h3]
noncomputable def tellR (ρ : Nat → Int32) (p m : Int32) : Nat → Int32 := pick (m = 5) (rset (rset (rset (rset ρ p 4 0) p 2 1) p 3 0) p 5 0) (pick (m = 4) (rset ρ p 4 0) (climbF (rset ρ p 4 0) p m))
def F_X0_tell_0 : Nat → jT := fun pc => (bif Nat.blt pc 14 then (bif Nat.blt pc 8 then (bif Nat.blt pc 4 then (bif Nat.blt pc 1 then (bif Nat.beq pc 0 then J_aload 0 1 else jbad) else (bif Nat.beq pc 1 then J_getfield 0 0 4 else jbad)) else (bif Nat.blt pc 5 then (bif Nat.beq pc 4 then J_iload 2 5 else jbad) else (bif Nat.beq pc 5 then J_callV 3 S_X3_hasPost 1 8 else jbad))) else (bif Nat.blt pc 12 then (bif Nat.blt pc 11 then (bif Nat.beq pc 8 then J_ifne 13 11 else jbad) else (bif Nat.beq pc 11 then J_iconst (-1) 12 else jbad)) else (bif Nat.blt pc 13 then (bif Nat.beq pc 12 then J_ireturn 0 0 else jbad) else (bif Nat.beq pc 13 then J_iload 3 14 else jbad)))) else (bif Nat.blt pc 22 then (bif Nat.blt pc 18 then (bif Nat.blt pc 17 then (bif Nat.beq pc 14 then J_iflt 22 17 else jbad) else (bif Nat.beq pc 17 then J_iload 3 18 else jbad)) else (bif Nat.blt pc 19 then (bif Nat.beq pc 18 then J_iconst 5 19 else jbad) else (bif Nat.beq pc 19 then J_icle 25 22 else jbad))) else (bif Nat.blt pc 25 then (bif Nat.blt pc 24 then (bif Nat.beq pc 22 then J_iconst (-2) 24 else jbad) else (bif Nat.beq pc 24 then J_ireturn 0 0 else jbad)) else (bif Nat.blt pc 26 then (bif Nat.beq pc 25 then J_aload 1 26 else jbad) else (bif Nat.beq pc 26 then J_iload 2 27 else jbad)))))
theorem ftl_X0_tell_0 : F_X0_tell_0 0 = J_aload 0 1 := rfl
theorem ftl_X0_tell_1 : F_X0_tell_0 1 = J_getfield 0 0 4 := rfl
theorem ftl_X0_tell_4 : F_X0_tell_0 4 = J_iload 2 5 := rfl
theorem ftl_X0_tell_5 : F_X0_tell_0 5 = J_callV 3 S_X3_hasPost 1 8 := rfl
theorem ftl_X0_tell_8 : F_X0_tell_0 8 = J_ifne 13 11 := rfl
theorem ftl_X0_tell_11 : F_X0_tell_0 11 = J_iconst (-1) 12 := rfl
theorem ftl_X0_tell_12 : F_X0_tell_0 12 = J_ireturn 0 0 := rfl
theorem ftl_X0_tell_13 : F_X0_tell_0 13 = J_iload 3 14 := rfl
theorem ftl_X0_tell_14 : F_X0_tell_0 14 = J_iflt 22 17 := rfl
theorem ftl_X0_tell_17 : F_X0_tell_0 17 = J_iload 3 18 := rfl
theorem ftl_X0_tell_18 : F_X0_tell_0 18 = J_iconst 5 19 := rfl
theorem ftl_X0_tell_19 : F_X0_tell_0 19 = J_icle 25 22 := rfl
theorem ftl_X0_tell_22 : F_X0_tell_0 22 = J_iconst (-2) 24 := rfl
theorem ftl_X0_tell_24 : F_X0_tell_0 24 = J_ireturn 0 0 := rfl
theorem ftl_X0_tell_25 : F_X0_tell_0 25 = J_aload 1 26 := rfl
theorem ftl_X0_tell_26 : F_X0_tell_0 26 = J_iload 2 27 := rfl
theorem F_X0_tell_0_ok : jOK Y_X0_tell none (F_X0_tell_0) := (jOK_node (jOK_node (jOK_node (jOK_node (jOK_leaf (sn_aload_n dX0_tell_0 rfl rfl)) (jOK_leaf (sn_getfield dX0_tell_1 rfl rfl (by decide) tw_73 jin0))) (jOK_node (jOK_leaf (sn_iload_n dX0_tell_4 rfl rfl)) (jOK_leaf (sn_callV (Y' := Y_X3_hasPost) ok_X3_hasPost dX0_tell_5 rfl rfl rfl tw_420 tw_287 tw_288 tw_3 jc_X3_hasPost rfl ⟨by decide, by decide, rfl⟩ ⟨by decide, by decide⟩)))) (jOK_node (jOK_node (jOK_leaf (sn_ifne dX0_tell_8 rfl rfl)) (jOK_leaf (sn_iconst dX0_tell_11 rfl rfl))) (jOK_node (jOK_leaf (sn_ireturn dX0_tell_12 rfl rfl)) (jOK_leaf (sn_iload_n dX0_tell_13 rfl rfl))))) (jOK_node (jOK_node (jOK_node (jOK_leaf (sn_iflt dX0_tell_14 rfl rfl)) (jOK_leaf (sn_iload_n dX0_tell_17 rfl rfl))) (jOK_node (jOK_leaf (sn_iconst dX0_tell_18 rfl rfl)) (jOK_leaf (sn_icle dX0_tell_19 rfl rfl)))) (jOK_node (jOK_node (jOK_leaf (sn_bipush dX0_tell_22 rfl rfl)) (jOK_leaf (sn_ireturn dX0_tell_24 rfl rfl))) (jOK_node (jOK_leaf (sn_aload_n dX0_tell_25 rfl rfl)) (jOK_leaf (sn_iload_n dX0_tell_26 rfl rfl))))))
def F_X0_tell_27 : Nat → jT := fun pc => (bif Nat.blt pc 41 then (bif Nat.blt pc 35 then (bif Nat.blt pc 33 then (bif Nat.blt pc 30 then (bif Nat.beq pc 27 then J_callV 4 S_X4_isLive 1 30 else jbad) else (bif Nat.beq pc 30 then J_ifeq 44 33 else jbad)) else (bif Nat.blt pc 34 then (bif Nat.beq pc 33 then J_aload 0 34 else jbad) else (bif Nat.beq pc 34 then J_aload 1 35 else jbad))) else (bif Nat.blt pc 37 then (bif Nat.blt pc 36 then (bif Nat.beq pc 35 then J_iload 2 36 else jbad) else (bif Nat.beq pc 36 then J_iconst (-1) 37 else jbad)) else (bif Nat.blt pc 40 then (bif Nat.beq pc 37 then J_callV 0 S_X0_kindAt 3 40 else jbad) else (bif Nat.beq pc 40 then J_iconst 2 41 else jbad)))) else (bif Nat.blt pc 48 then (bif Nat.blt pc 46 then (bif Nat.blt pc 44 then (bif Nat.beq pc 41 then J_icne 47 44 else jbad) else (bif Nat.beq pc 44 then J_iconst (-3) 46 else jbad)) else (bif Nat.blt pc 47 then (bif Nat.beq pc 46 then J_ireturn 0 0 else jbad) else (bif Nat.beq pc 47 then J_aload 1 48 else jbad))) else (bif Nat.blt pc 50 then (bif Nat.blt pc 49 then (bif Nat.beq pc 48 then J_iload 2 49 else jbad) else (bif Nat.beq pc 49 then J_iconst 4 50 else jbad)) else (bif Nat.blt pc 51 then (bif Nat.beq pc 50 then J_iconst 0 51 else jbad) else (bif Nat.beq pc 51 then J_callV 4 S_X4_set 3 54 else jbad)))))
theorem ftl_X0_tell_27 : F_X0_tell_27 27 = J_callV 4 S_X4_isLive 1 30 := rfl
theorem ftl_X0_tell_30 : F_X0_tell_27 30 = J_ifeq 44 33 := rfl
theorem ftl_X0_tell_33 : F_X0_tell_27 33 = J_aload 0 34 := rfl
theorem ftl_X0_tell_34 : F_X0_tell_27 34 = J_aload 1 35 := rfl
theorem ftl_X0_tell_35 : F_X0_tell_27 35 = J_iload 2 36 := rfl
theorem ftl_X0_tell_36 : F_X0_tell_27 36 = J_iconst (-1) 37 := rfl
theorem ftl_X0_tell_37 : F_X0_tell_27 37 = J_callV 0 S_X0_kindAt 3 40 := rfl
theorem ftl_X0_tell_40 : F_X0_tell_27 40 = J_iconst 2 41 := rfl
theorem ftl_X0_tell_41 : F_X0_tell_27 41 = J_icne 47 44 := rfl
theorem ftl_X0_tell_44 : F_X0_tell_27 44 = J_iconst (-3) 46 := rfl
theorem ftl_X0_tell_46 : F_X0_tell_27 46 = J_ireturn 0 0 := rfl
theorem ftl_X0_tell_47 : F_X0_tell_27 47 = J_aload 1 48 := rfl
theorem ftl_X0_tell_48 : F_X0_tell_27 48 = J_iload 2 49 := rfl
theorem ftl_X0_tell_49 : F_X0_tell_27 49 = J_iconst 4 50 := rfl
theorem ftl_X0_tell_50 : F_X0_tell_27 50 = J_iconst 0 51 := rfl
theorem ftl_X0_tell_51 : F_X0_tell_27 51 = J_callV 4 S_X4_set 3 54 := rfl
theorem F_X0_tell_27_ok : jOK Y_X0_tell none (F_X0_tell_27) := (jOK_node (jOK_node (jOK_node (jOK_node (jOK_leaf (sn_callV (Y' := Y_X4_isLive) ok_X4_isLive dX0_tell_27 rfl rfl rfl tw_350 tw_351 tw_352 tw_5 jc_X4_isLive rfl ⟨by decide, by decide, rfl⟩ ⟨by decide, by decide⟩)) (jOK_leaf (sn_ifeq dX0_tell_30 rfl rfl))) (jOK_node (jOK_leaf (sn_aload_n dX0_tell_33 rfl rfl)) (jOK_leaf (sn_aload_n dX0_tell_34 rfl rfl)))) (jOK_node (jOK_node (jOK_leaf (sn_iload_n dX0_tell_35 rfl rfl)) (jOK_leaf (sn_iconst dX0_tell_36 rfl rfl))) (jOK_node (jOK_leaf (sn_callV (Y' := Y_X0_kindAt) ok_X0_kindAt dX0_tell_37 rfl rfl rfl tw_354 tw_356 tp_9 tw_4 jc_X0_kindAt rfl ⟨by decide, by decide, rfl⟩ ⟨by decide, by decide⟩)) (jOK_leaf (sn_iconst dX0_tell_40 rfl rfl))))) (jOK_node (jOK_node (jOK_node (jOK_leaf (sn_icne dX0_tell_41 rfl rfl)) (jOK_leaf (sn_bipush dX0_tell_44 rfl rfl))) (jOK_node (jOK_leaf (sn_ireturn dX0_tell_46 rfl rfl)) (jOK_leaf (sn_aload_n dX0_tell_47 rfl rfl)))) (jOK_node (jOK_node (jOK_leaf (sn_iload_n dX0_tell_48 rfl rfl)) (jOK_leaf (sn_iconst dX0_tell_49 rfl rfl))) (jOK_node (jOK_leaf (sn_iconst dX0_tell_50 rfl rfl)) (jOK_leaf (sn_callV (Y' := Y_X4_set) ok_X4_set dX0_tell_51 rfl rfl rfl tw_358 tw_151 tw_152 tw_5 jc_X4_set rfl ⟨by decide, by decide, rfl⟩ ⟨by decide, by decide⟩))))))
def F_X0_tell_0_51 : Nat → jT := fun pc => bif Nat.blt pc 27 then F_X0_tell_0 pc else F_X0_tell_27 pc
theorem F_X0_tell_0_51_ok : jOK Y_X0_tell none (F_X0_tell_0_51) := jOK_node (F_X0_tell_0_ok) (F_X0_tell_27_ok)
def F_X0_tell_54 : Nat → jT := fun pc => (bif Nat.blt pc 66 then (bif Nat.blt pc 60 then (bif Nat.blt pc 56 then (bif Nat.blt pc 55 then (bif Nat.beq pc 54 then J_iload 3 55 else jbad) else (bif Nat.beq pc 55 then J_iconst 5 56 else jbad)) else (bif Nat.blt pc 59 then (bif Nat.beq pc 56 then J_icne 83 59 else jbad) else (bif Nat.beq pc 59 then J_aload 1 60 else jbad))) else (bif Nat.blt pc 62 then (bif Nat.blt pc 61 then (bif Nat.beq pc 60 then J_iload 2 61 else jbad) else (bif Nat.beq pc 61 then J_iconst 2 62 else jbad)) else (bif Nat.blt pc 63 then (bif Nat.beq pc 62 then J_iconst 1 63 else jbad) else (bif Nat.beq pc 63 then J_callV 4 S_X4_set 3 66 else jbad)))) else (bif Nat.blt pc 70 then (bif Nat.blt pc 68 then (bif Nat.blt pc 67 then (bif Nat.beq pc 66 then J_aload 1 67 else jbad) else (bif Nat.beq pc 67 then J_iload 2 68 else jbad)) else (bif Nat.blt pc 69 then (bif Nat.beq pc 68 then J_iconst 3 69 else jbad) else (bif Nat.beq pc 69 then J_iconst 0 70 else jbad))) else (bif Nat.blt pc 74 then (bif Nat.blt pc 73 then (bif Nat.beq pc 70 then J_callV 4 S_X4_set 3 73 else jbad) else (bif Nat.beq pc 73 then J_aload 1 74 else jbad)) else (bif Nat.blt pc 75 then (bif Nat.beq pc 74 then J_iload 2 75 else jbad) else (bif Nat.beq pc 75 then J_iconst 5 76 else jbad)))))
theorem ftl_X0_tell_54 : F_X0_tell_54 54 = J_iload 3 55 := rfl
theorem ftl_X0_tell_55 : F_X0_tell_54 55 = J_iconst 5 56 := rfl
theorem ftl_X0_tell_56 : F_X0_tell_54 56 = J_icne 83 59 := rfl
theorem ftl_X0_tell_59 : F_X0_tell_54 59 = J_aload 1 60 := rfl
theorem ftl_X0_tell_60 : F_X0_tell_54 60 = J_iload 2 61 := rfl
theorem ftl_X0_tell_61 : F_X0_tell_54 61 = J_iconst 2 62 := rfl
theorem ftl_X0_tell_62 : F_X0_tell_54 62 = J_iconst 1 63 := rfl
theorem ftl_X0_tell_63 : F_X0_tell_54 63 = J_callV 4 S_X4_set 3 66 := rfl
theorem ftl_X0_tell_66 : F_X0_tell_54 66 = J_aload 1 67 := rfl
theorem ftl_X0_tell_67 : F_X0_tell_54 67 = J_iload 2 68 := rfl
theorem ftl_X0_tell_68 : F_X0_tell_54 68 = J_iconst 3 69 := rfl
theorem ftl_X0_tell_69 : F_X0_tell_54 69 = J_iconst 0 70 := rfl
theorem ftl_X0_tell_70 : F_X0_tell_54 70 = J_callV 4 S_X4_set 3 73 := rfl
theorem ftl_X0_tell_73 : F_X0_tell_54 73 = J_aload 1 74 := rfl
theorem ftl_X0_tell_74 : F_X0_tell_54 74 = J_iload 2 75 := rfl
theorem ftl_X0_tell_75 : F_X0_tell_54 75 = J_iconst 5 76 := rfl
theorem F_X0_tell_54_ok : jOK Y_X0_tell none (F_X0_tell_54) := (jOK_node (jOK_node (jOK_node (jOK_node (jOK_leaf (sn_iload_n dX0_tell_54 rfl rfl)) (jOK_leaf (sn_iconst dX0_tell_55 rfl rfl))) (jOK_node (jOK_leaf (sn_icne dX0_tell_56 rfl rfl)) (jOK_leaf (sn_aload_n dX0_tell_59 rfl rfl)))) (jOK_node (jOK_node (jOK_leaf (sn_iload_n dX0_tell_60 rfl rfl)) (jOK_leaf (sn_iconst dX0_tell_61 rfl rfl))) (jOK_node (jOK_leaf (sn_iconst dX0_tell_62 rfl rfl)) (jOK_leaf (sn_callV (Y' := Y_X4_set) ok_X4_set dX0_tell_63 rfl rfl rfl tw_358 tw_151 tw_152 tw_5 jc_X4_set rfl ⟨by decide, by decide, rfl⟩ ⟨by decide, by decide⟩))))) (jOK_node (jOK_node (jOK_node (jOK_leaf (sn_aload_n dX0_tell_66 rfl rfl)) (jOK_leaf (sn_iload_n dX0_tell_67 rfl rfl))) (jOK_node (jOK_leaf (sn_iconst dX0_tell_68 rfl rfl)) (jOK_leaf (sn_iconst dX0_tell_69 rfl rfl)))) (jOK_node (jOK_node (jOK_leaf (sn_callV (Y' := Y_X4_set) ok_X4_set dX0_tell_70 rfl rfl rfl tw_358 tw_151 tw_152 tw_5 jc_X4_set rfl ⟨by decide, by decide, rfl⟩ ⟨by decide, by decide⟩)) (jOK_leaf (sn_aload_n dX0_tell_73 rfl rfl))) (jOK_node (jOK_leaf (sn_iload_n dX0_tell_74 rfl rfl)) (jOK_leaf (sn_iconst dX0_tell_75 rfl rfl))))))
def F_X0_tell_76 : Nat → jT := fun pc => (bif Nat.blt pc 90 then (bif Nat.blt pc 84 then (bif Nat.blt pc 80 then (bif Nat.blt pc 77 then (bif Nat.beq pc 76 then J_iconst 0 77 else jbad) else (bif Nat.beq pc 77 then J_callV 4 S_X4_set 3 80 else jbad)) else (bif Nat.blt pc 83 then (bif Nat.beq pc 80 then J_goto 95 else jbad) else (bif Nat.beq pc 83 then J_iload 3 84 else jbad))) else (bif Nat.blt pc 88 then (bif Nat.blt pc 85 then (bif Nat.beq pc 84 then J_iconst 4 85 else jbad) else (bif Nat.beq pc 85 then J_iceq 95 88 else jbad)) else (bif Nat.blt pc 89 then (bif Nat.beq pc 88 then J_aload 0 89 else jbad) else (bif Nat.beq pc 89 then J_aload 1 90 else jbad)))) else (bif Nat.blt pc 96 then (bif Nat.blt pc 92 then (bif Nat.blt pc 91 then (bif Nat.beq pc 90 then J_iload 2 91 else jbad) else (bif Nat.beq pc 91 then J_iload 3 92 else jbad)) else (bif Nat.blt pc 95 then (bif Nat.beq pc 92 then J_callV 0 S_X0_climb 3 95 else jbad) else (bif Nat.beq pc 95 then J_aload 1 96 else jbad))) else (bif Nat.blt pc 98 then (bif Nat.blt pc 97 then (bif Nat.beq pc 96 then J_iload 2 97 else jbad) else (bif Nat.beq pc 97 then J_iconst 2 98 else jbad)) else (bif Nat.blt pc 101 then (bif Nat.beq pc 98 then J_callV 4 S_X4_get 2 101 else jbad) else (bif Nat.beq pc 101 then J_ireturn 0 0 else jbad)))))
theorem ftl_X0_tell_76 : F_X0_tell_76 76 = J_iconst 0 77 := rfl
theorem ftl_X0_tell_77 : F_X0_tell_76 77 = J_callV 4 S_X4_set 3 80 := rfl
theorem ftl_X0_tell_80 : F_X0_tell_76 80 = J_goto 95 := rfl
theorem ftl_X0_tell_83 : F_X0_tell_76 83 = J_iload 3 84 := rfl
theorem ftl_X0_tell_84 : F_X0_tell_76 84 = J_iconst 4 85 := rfl
theorem ftl_X0_tell_85 : F_X0_tell_76 85 = J_iceq 95 88 := rfl
theorem ftl_X0_tell_88 : F_X0_tell_76 88 = J_aload 0 89 := rfl
theorem ftl_X0_tell_89 : F_X0_tell_76 89 = J_aload 1 90 := rfl
theorem ftl_X0_tell_90 : F_X0_tell_76 90 = J_iload 2 91 := rfl
theorem ftl_X0_tell_91 : F_X0_tell_76 91 = J_iload 3 92 := rfl
theorem ftl_X0_tell_92 : F_X0_tell_76 92 = J_callV 0 S_X0_climb 3 95 := rfl
theorem ftl_X0_tell_95 : F_X0_tell_76 95 = J_aload 1 96 := rfl
theorem ftl_X0_tell_96 : F_X0_tell_76 96 = J_iload 2 97 := rfl
theorem ftl_X0_tell_97 : F_X0_tell_76 97 = J_iconst 2 98 := rfl
theorem ftl_X0_tell_98 : F_X0_tell_76 98 = J_callV 4 S_X4_get 2 101 := rfl
theorem ftl_X0_tell_101 : F_X0_tell_76 101 = J_ireturn 0 0 := rfl
theorem F_X0_tell_76_ok : jOK Y_X0_tell none (F_X0_tell_76) := (jOK_node (jOK_node (jOK_node (jOK_node (jOK_leaf (sn_iconst dX0_tell_76 rfl rfl)) (jOK_leaf (sn_callV (Y' := Y_X4_set) ok_X4_set dX0_tell_77 rfl rfl rfl tw_358 tw_151 tw_152 tw_5 jc_X4_set rfl ⟨by decide, by decide, rfl⟩ ⟨by decide, by decide⟩))) (jOK_node (jOK_leaf (sn_goto dX0_tell_80 rfl)) (jOK_leaf (sn_iload_n dX0_tell_83 rfl rfl)))) (jOK_node (jOK_node (jOK_leaf (sn_iconst dX0_tell_84 rfl rfl)) (jOK_leaf (sn_iceq dX0_tell_85 rfl rfl))) (jOK_node (jOK_leaf (sn_aload_n dX0_tell_88 rfl rfl)) (jOK_leaf (sn_aload_n dX0_tell_89 rfl rfl))))) (jOK_node (jOK_node (jOK_node (jOK_leaf (sn_iload_n dX0_tell_90 rfl rfl)) (jOK_leaf (sn_iload_n dX0_tell_91 rfl rfl))) (jOK_node (jOK_leaf (sn_callV (Y' := Y_X0_climb) ok_X0_climb dX0_tell_92 rfl rfl rfl tw_444 tw_446 tp_18 tw_4 jc_X0_climb rfl ⟨by decide, by decide, rfl⟩ ⟨by decide, by decide⟩)) (jOK_leaf (sn_aload_n dX0_tell_95 rfl rfl)))) (jOK_node (jOK_node (jOK_leaf (sn_iload_n dX0_tell_96 rfl rfl)) (jOK_leaf (sn_iconst dX0_tell_97 rfl rfl))) (jOK_node (jOK_leaf (sn_callV (Y' := Y_X4_get) ok_X4_get dX0_tell_98 rfl rfl rfl tw_306 tw_267 tw_268 tw_5 jc_X4_get rfl ⟨by decide, by decide, rfl⟩ ⟨by decide, by decide⟩)) (jOK_leaf (sn_ireturn dX0_tell_101 rfl rfl))))))
def F_X0_tell_54_101 : Nat → jT := fun pc => bif Nat.blt pc 76 then F_X0_tell_54 pc else F_X0_tell_76 pc
theorem F_X0_tell_54_101_ok : jOK Y_X0_tell none (F_X0_tell_54_101) := jOK_node (F_X0_tell_54_ok) (F_X0_tell_76_ok)
def F_X0_tell_0_101 : Nat → jT := fun pc => bif Nat.blt pc 54 then F_X0_tell_0_51 pc else F_X0_tell_54_101 pc
theorem F_X0_tell_0_101_ok : jOK Y_X0_tell none (F_X0_tell_0_101) := jOK_node (F_X0_tell_0_51_ok) (F_X0_tell_54_101_ok)
def F_X0_tell : Nat → jT := F_X0_tell_0_101
theorem OK_X0_tell : jOK Y_X0_tell none (F_X0_tell) := F_X0_tell_0_101_ok
theorem ft_X0_tell_0 : F_X0_tell 0 = J_aload 0 1 := ftl_X0_tell_0
theorem ft_X0_tell_1 : F_X0_tell 1 = J_getfield 0 0 4 := ftl_X0_tell_1
theorem ft_X0_tell_4 : F_X0_tell 4 = J_iload 2 5 := ftl_X0_tell_4
theorem ft_X0_tell_5 : F_X0_tell 5 = J_callV 3 S_X3_hasPost 1 8 := ftl_X0_tell_5
theorem ft_X0_tell_8 : F_X0_tell 8 = J_ifne 13 11 := ftl_X0_tell_8
theorem ft_X0_tell_11 : F_X0_tell 11 = J_iconst (-1) 12 := ftl_X0_tell_11
theorem ft_X0_tell_12 : F_X0_tell 12 = J_ireturn 0 0 := ftl_X0_tell_12
theorem ft_X0_tell_13 : F_X0_tell 13 = J_iload 3 14 := ftl_X0_tell_13
theorem ft_X0_tell_14 : F_X0_tell 14 = J_iflt 22 17 := ftl_X0_tell_14
theorem ft_X0_tell_17 : F_X0_tell 17 = J_iload 3 18 := ftl_X0_tell_17
theorem ft_X0_tell_18 : F_X0_tell 18 = J_iconst 5 19 := ftl_X0_tell_18
theorem ft_X0_tell_19 : F_X0_tell 19 = J_icle 25 22 := ftl_X0_tell_19
theorem ft_X0_tell_22 : F_X0_tell 22 = J_iconst (-2) 24 := ftl_X0_tell_22
theorem ft_X0_tell_24 : F_X0_tell 24 = J_ireturn 0 0 := ftl_X0_tell_24
theorem ft_X0_tell_25 : F_X0_tell 25 = J_aload 1 26 := ftl_X0_tell_25
theorem ft_X0_tell_26 : F_X0_tell 26 = J_iload 2 27 := ftl_X0_tell_26
theorem ft_X0_tell_27 : F_X0_tell 27 = J_callV 4 S_X4_isLive 1 30 := ftl_X0_tell_27
theorem ft_X0_tell_30 : F_X0_tell 30 = J_ifeq 44 33 := ftl_X0_tell_30
theorem ft_X0_tell_33 : F_X0_tell 33 = J_aload 0 34 := ftl_X0_tell_33
theorem ft_X0_tell_34 : F_X0_tell 34 = J_aload 1 35 := ftl_X0_tell_34
theorem ft_X0_tell_35 : F_X0_tell 35 = J_iload 2 36 := ftl_X0_tell_35
theorem ft_X0_tell_36 : F_X0_tell 36 = J_iconst (-1) 37 := ftl_X0_tell_36
theorem ft_X0_tell_37 : F_X0_tell 37 = J_callV 0 S_X0_kindAt 3 40 := ftl_X0_tell_37
theorem ft_X0_tell_40 : F_X0_tell 40 = J_iconst 2 41 := ftl_X0_tell_40
theorem ft_X0_tell_41 : F_X0_tell 41 = J_icne 47 44 := ftl_X0_tell_41
theorem ft_X0_tell_44 : F_X0_tell 44 = J_iconst (-3) 46 := ftl_X0_tell_44
theorem ft_X0_tell_46 : F_X0_tell 46 = J_ireturn 0 0 := ftl_X0_tell_46
theorem ft_X0_tell_47 : F_X0_tell 47 = J_aload 1 48 := ftl_X0_tell_47
theorem ft_X0_tell_48 : F_X0_tell 48 = J_iload 2 49 := ftl_X0_tell_48
theorem ft_X0_tell_49 : F_X0_tell 49 = J_iconst 4 50 := ftl_X0_tell_49
theorem ft_X0_tell_50 : F_X0_tell 50 = J_iconst 0 51 := ftl_X0_tell_50
theorem ft_X0_tell_51 : F_X0_tell 51 = J_callV 4 S_X4_set 3 54 := ftl_X0_tell_51
theorem ft_X0_tell_54 : F_X0_tell 54 = J_iload 3 55 := ftl_X0_tell_54
theorem ft_X0_tell_55 : F_X0_tell 55 = J_iconst 5 56 := ftl_X0_tell_55
theorem ft_X0_tell_56 : F_X0_tell 56 = J_icne 83 59 := ftl_X0_tell_56
theorem ft_X0_tell_59 : F_X0_tell 59 = J_aload 1 60 := ftl_X0_tell_59
theorem ft_X0_tell_60 : F_X0_tell 60 = J_iload 2 61 := ftl_X0_tell_60
theorem ft_X0_tell_61 : F_X0_tell 61 = J_iconst 2 62 := ftl_X0_tell_61
theorem ft_X0_tell_62 : F_X0_tell 62 = J_iconst 1 63 := ftl_X0_tell_62
theorem ft_X0_tell_63 : F_X0_tell 63 = J_callV 4 S_X4_set 3 66 := ftl_X0_tell_63
theorem ft_X0_tell_66 : F_X0_tell 66 = J_aload 1 67 := ftl_X0_tell_66
theorem ft_X0_tell_67 : F_X0_tell 67 = J_iload 2 68 := ftl_X0_tell_67
theorem ft_X0_tell_68 : F_X0_tell 68 = J_iconst 3 69 := ftl_X0_tell_68
theorem ft_X0_tell_69 : F_X0_tell 69 = J_iconst 0 70 := ftl_X0_tell_69
theorem ft_X0_tell_70 : F_X0_tell 70 = J_callV 4 S_X4_set 3 73 := ftl_X0_tell_70
theorem ft_X0_tell_73 : F_X0_tell 73 = J_aload 1 74 := ftl_X0_tell_73
theorem ft_X0_tell_74 : F_X0_tell 74 = J_iload 2 75 := ftl_X0_tell_74
theorem ft_X0_tell_75 : F_X0_tell 75 = J_iconst 5 76 := ftl_X0_tell_75
theorem ft_X0_tell_76 : F_X0_tell 76 = J_iconst 0 77 := ftl_X0_tell_76
theorem ft_X0_tell_77 : F_X0_tell 77 = J_callV 4 S_X4_set 3 80 := ftl_X0_tell_77
theorem ft_X0_tell_80 : F_X0_tell 80 = J_goto 95 := ftl_X0_tell_80
theorem ft_X0_tell_83 : F_X0_tell 83 = J_iload 3 84 := ftl_X0_tell_83
theorem ft_X0_tell_84 : F_X0_tell 84 = J_iconst 4 85 := ftl_X0_tell_84
theorem ft_X0_tell_85 : F_X0_tell 85 = J_iceq 95 88 := ftl_X0_tell_85
theorem ft_X0_tell_88 : F_X0_tell 88 = J_aload 0 89 := ftl_X0_tell_88
theorem ft_X0_tell_89 : F_X0_tell 89 = J_aload 1 90 := ftl_X0_tell_89
theorem ft_X0_tell_90 : F_X0_tell 90 = J_iload 2 91 := ftl_X0_tell_90
theorem ft_X0_tell_91 : F_X0_tell 91 = J_iload 3 92 := ftl_X0_tell_91
theorem ft_X0_tell_92 : F_X0_tell 92 = J_callV 0 S_X0_climb 3 95 := ftl_X0_tell_92
theorem ft_X0_tell_95 : F_X0_tell 95 = J_aload 1 96 := ftl_X0_tell_95
theorem ft_X0_tell_96 : F_X0_tell 96 = J_iload 2 97 := ftl_X0_tell_96
theorem ft_X0_tell_97 : F_X0_tell 97 = J_iconst 2 98 := ftl_X0_tell_97
theorem ft_X0_tell_98 : F_X0_tell 98 = J_callV 4 S_X4_get 2 101 := ftl_X0_tell_98
theorem ft_X0_tell_101 : F_X0_tell 101 = J_ireturn 0 0 := ftl_X0_tell_101
def S_X0_tell : jSp := fun nb vs mem Q => jcs vs ≤ 4 ∧ jrun F_X0_tell [] 120 Q (fun _ _ _ _ _ => False) 0 (jargs vs ++ []) [] mem (nb, 0, 0)
theorem ok_X0_tell : jMeets Y_X0_tell S_X0_tell := fun _ _ _ _ h => Ok.inl OK_X0_tell 120 [] pn0 rfl h
theorem s_X0_tell {nb s : Nat} {C : Nat → Nat → Int32} {z : Nat → Int64} {p m : Int32} {Q : jQ} (h : jSt s 94) : S_X0_tell nb [.ref 6, .ref s, .int p, .int m] (memS 94 C z) Q = pick (okPost C p) (pick (¬ m < 0 ∧ m ≤ 5) (pick (liveP (C s) p ∧ ¬ kdF (C 5) (C s) p (-1) = 2) (Q (some (.int (rget (tellR (C s) p m) p 2))) (memS 94 (hrow C s (tellR (C s) p m)) z)) (Q (some (.int (-3))) (memS 94 C z))) (Q (some (.int (-2))) (memS 94 C z))) (Q (some (.int (-1))) (memS 94 C z)) := by
  refine (eq_le rfl).trans ?_
  simp -implicitDefEqProofs only [jr_0, jr_1, jr_2, j_iconst, j_lconst, j_iload0, j_aload0, j_istore0, j_astore0, j_iinc0, j_iload1, j_aload1, j_istore1, j_astore1, j_iinc1, j_iload2, j_aload2, j_istore2, j_astore2, j_iinc2, j_iload3, j_aload3, j_istore3, j_astore3, j_iinc3, j_iload4, j_aload4, j_istore4, j_astore4, j_iinc4, j_iload5, j_aload5, j_istore5, j_astore5, j_iinc5, j_iload6, j_aload6, j_istore6, j_astore6, j_iinc6, j_iload7, j_aload7, j_istore7, j_astore7, j_iinc7, j_iload8, j_aload8, j_istore8, j_astore8, j_iinc8, j_iadd, j_isub, j_imul, j_iand, j_ior, j_ixor, j_ishl, j_ishr, j_iushr, j_idiv, j_irem, j_ineg, j_ladd, j_lmul, j_land, j_lor, j_lcmp, j_lushr, j_lshl, j_i2l, j_l2i, j_dupI, j_dupR, j_popI, j_dup2, j_ifeq, j_iceq, j_ifne, j_icne, j_iflt, j_iclt, j_ifge, j_icge, j_ifgt, j_icgt, j_ifle, j_icle, j_goto, j_tsw, j_sw0, j_sw1, j_ireturn, j_zreturn, j_lreturn, j_return, j_getfield, j_putI, j_putJ, j_putR, j_iaload, j_baload, j_iastore, j_bastore, j_aaload, j_q, j_aastore, j_acopy, j_mmin, j_mmax, j_mabs, j_objinit, j_new, j_newI, j_newQ, j_sld, j_slen, j_callV0, j_callI0, j_callS0, j_callV1, j_callI1, j_callS1, j_callV2, j_callI2, j_callS2, j_callV3, j_callS3, j_callV4, j_callS4, j_callV5, j_callS5, j_pushS, j_pushN, j_sh0, j_sh1, j_sh2, j_sh3, j_sh4, Int32.reduceAdd, Int32.reduceMul, Int32.reduceSub, Int32.reduceLT, Int32.reduceLE, eq_self, i32_10, i32_01, ne_eq, hrow_s, hrow_n, ne10, ne100, ne1000, ne7, ne4, ne14, ne9973, or_true, true_or, or_false, false_or, not_true_eq_false, not_false_eq_true, false_implies, implies_true, and_true, forall_const, true_implies, jargs_n, jargs_r, jargs_i, List.cons_append, List.nil_append, true_and, Nat.reduceEqDiff, reduceIte, ft_X0_tell_0, ft_X0_tell_1, ft_X0_tell_4, ft_X0_tell_5, ft_X0_tell_8, ft_X0_tell_11, ft_X0_tell_12, ft_X0_tell_13, ft_X0_tell_14, ft_X0_tell_17, ft_X0_tell_18, ft_X0_tell_19, ft_X0_tell_22, ft_X0_tell_24, ft_X0_tell_25, ft_X0_tell_26, ft_X0_tell_27, ft_X0_tell_30, ft_X0_tell_33, ft_X0_tell_34, ft_X0_tell_35, ft_X0_tell_36, ft_X0_tell_37, ft_X0_tell_40, ft_X0_tell_41, ft_X0_tell_44, ft_X0_tell_46, ft_X0_tell_47, ft_X0_tell_48, ft_X0_tell_49, ft_X0_tell_50, ft_X0_tell_51, ft_X0_tell_54, ft_X0_tell_55, ft_X0_tell_56, ft_X0_tell_59, ft_X0_tell_60, ft_X0_tell_61, ft_X0_tell_62, ft_X0_tell_63, ft_X0_tell_66, ft_X0_tell_67, ft_X0_tell_68, ft_X0_tell_69, ft_X0_tell_70, ft_X0_tell_73, ft_X0_tell_74, ft_X0_tell_75, ft_X0_tell_76, ft_X0_tell_77, ft_X0_tell_80, ft_X0_tell_83, ft_X0_tell_84, ft_X0_tell_85, ft_X0_tell_88, ft_X0_tell_89, ft_X0_tell_90, ft_X0_tell_91, ft_X0_tell_92, ft_X0_tell_95, ft_X0_tell_96, ft_X0_tell_97, ft_X0_tell_98, ft_X0_tell_101, jrcv_st h, rc_3, rc_6, fl_6_0, s_okPost jD94, s_X4_liveP h, s_X0_kindAt h, s_X4_get h, s_X4_set h, s_X0_climb h, zb_0, hrow_hrow]
  unfold tellR
  by_cases h1 : okPost C p
  · by_cases h2 : m < 0
    · simp [pick, h1, h2]
    · by_cases h3 : m ≤ 5
      · by_cases h4 : liveP (C s) p
        · by_cases h5 : kdF (C 5) (C s) p (-1) = 2
          · simp [pick, h1, h2, h3, h4, h5]
          · by_cases h6 : m = 5
            · simp [pick, h1, h4, h5, h6]
            · by_cases h7 : m = 4
              · simp [pick, h1, h4, h5, h7]
              · simp [pick, h1, h2, h3, h4, h5, h6, h7]
        · simp [pick, h1, h2, h3, h4]
      · simp [pick, h1, h2, h3]
  · simp [pick, h1]
def F_X0_revive_0 : Nat → jT := fun pc => (bif Nat.blt pc 12 then (bif Nat.blt pc 5 then (bif Nat.blt pc 1 then (bif Nat.beq pc 0 then J_aload 0 1 else jbad) else (bif Nat.blt pc 4 then (bif Nat.beq pc 1 then J_getfield 0 0 4 else jbad) else (bif Nat.beq pc 4 then J_iload 2 5 else jbad))) else (bif Nat.blt pc 8 then (bif Nat.beq pc 5 then J_callV 3 S_X3_hasPost 1 8 else jbad) else (bif Nat.blt pc 11 then (bif Nat.beq pc 8 then J_ifne 13 11 else jbad) else (bif Nat.beq pc 11 then J_iconst (-1) 12 else jbad)))) else (bif Nat.blt pc 15 then (bif Nat.blt pc 13 then (bif Nat.beq pc 12 then J_ireturn 0 0 else jbad) else (bif Nat.blt pc 14 then (bif Nat.beq pc 13 then J_aload 1 14 else jbad) else (bif Nat.beq pc 14 then J_iload 2 15 else jbad))) else (bif Nat.blt pc 16 then (bif Nat.beq pc 15 then J_iconst 2 16 else jbad) else (bif Nat.blt pc 19 then (bif Nat.beq pc 16 then J_callV 4 S_X4_get 2 19 else jbad) else (bif Nat.beq pc 19 then J_iconst 4 20 else jbad)))))
theorem ftl_X0_revive_0 : F_X0_revive_0 0 = J_aload 0 1 := rfl
theorem ftl_X0_revive_1 : F_X0_revive_0 1 = J_getfield 0 0 4 := rfl
theorem ftl_X0_revive_4 : F_X0_revive_0 4 = J_iload 2 5 := rfl
theorem ftl_X0_revive_5 : F_X0_revive_0 5 = J_callV 3 S_X3_hasPost 1 8 := rfl
theorem ftl_X0_revive_8 : F_X0_revive_0 8 = J_ifne 13 11 := rfl
theorem ftl_X0_revive_11 : F_X0_revive_0 11 = J_iconst (-1) 12 := rfl
theorem ftl_X0_revive_12 : F_X0_revive_0 12 = J_ireturn 0 0 := rfl
theorem ftl_X0_revive_13 : F_X0_revive_0 13 = J_aload 1 14 := rfl
theorem ftl_X0_revive_14 : F_X0_revive_0 14 = J_iload 2 15 := rfl
theorem ftl_X0_revive_15 : F_X0_revive_0 15 = J_iconst 2 16 := rfl
theorem ftl_X0_revive_16 : F_X0_revive_0 16 = J_callV 4 S_X4_get 2 19 := rfl
theorem ftl_X0_revive_19 : F_X0_revive_0 19 = J_iconst 4 20 := rfl
theorem F_X0_revive_0_ok : jOK Y_X0_revive none (F_X0_revive_0) := (jOK_node (jOK_node (jOK_node (jOK_leaf (sn_aload_n dX0_revive_0 rfl rfl)) (jOK_node (jOK_leaf (sn_getfield dX0_revive_1 rfl rfl (by decide) tw_73 jin0)) (jOK_leaf (sn_iload_n dX0_revive_4 rfl rfl)))) (jOK_node (jOK_leaf (sn_callV (Y' := Y_X3_hasPost) ok_X3_hasPost dX0_revive_5 rfl rfl rfl tw_420 tw_287 tw_288 tw_3 jc_X3_hasPost rfl ⟨by decide, by decide, rfl⟩ ⟨by decide, by decide⟩)) (jOK_node (jOK_leaf (sn_ifne dX0_revive_8 rfl rfl)) (jOK_leaf (sn_iconst dX0_revive_11 rfl rfl))))) (jOK_node (jOK_node (jOK_leaf (sn_ireturn dX0_revive_12 rfl rfl)) (jOK_node (jOK_leaf (sn_aload_n dX0_revive_13 rfl rfl)) (jOK_leaf (sn_iload_n dX0_revive_14 rfl rfl)))) (jOK_node (jOK_leaf (sn_iconst dX0_revive_15 rfl rfl)) (jOK_node (jOK_leaf (sn_callV (Y' := Y_X4_get) ok_X4_get dX0_revive_16 rfl rfl rfl tw_306 tw_267 tw_268 tw_5 jc_X4_get rfl ⟨by decide, by decide, rfl⟩ ⟨by decide, by decide⟩)) (jOK_leaf (sn_iconst dX0_revive_19 rfl rfl))))))
def F_X0_revive_20 : Nat → jT := fun pc => (bif Nat.blt pc 29 then (bif Nat.blt pc 26 then (bif Nat.blt pc 23 then (bif Nat.beq pc 20 then J_iceq 26 23 else jbad) else (bif Nat.blt pc 25 then (bif Nat.beq pc 23 then J_iconst (-3) 25 else jbad) else (bif Nat.beq pc 25 then J_ireturn 0 0 else jbad))) else (bif Nat.blt pc 27 then (bif Nat.beq pc 26 then J_aload 1 27 else jbad) else (bif Nat.blt pc 28 then (bif Nat.beq pc 27 then J_iload 2 28 else jbad) else (bif Nat.beq pc 28 then J_iconst 1 29 else jbad)))) else (bif Nat.blt pc 34 then (bif Nat.blt pc 32 then (bif Nat.beq pc 29 then J_callV 4 S_X4_restart 2 32 else jbad) else (bif Nat.blt pc 33 then (bif Nat.beq pc 32 then J_aload 1 33 else jbad) else (bif Nat.beq pc 33 then J_iconst 4 34 else jbad))) else (bif Nat.blt pc 37 then (bif Nat.beq pc 34 then J_callV 4 S_X4_postsIn 1 37 else jbad) else (bif Nat.blt pc 40 then (bif Nat.beq pc 37 then J_callS S_J6_bitCount_0f7a4 1 40 else jbad) else (bif Nat.beq pc 40 then J_ireturn 0 0 else jbad)))))
theorem ftl_X0_revive_20 : F_X0_revive_20 20 = J_iceq 26 23 := rfl
theorem ftl_X0_revive_23 : F_X0_revive_20 23 = J_iconst (-3) 25 := rfl
theorem ftl_X0_revive_25 : F_X0_revive_20 25 = J_ireturn 0 0 := rfl
theorem ftl_X0_revive_26 : F_X0_revive_20 26 = J_aload 1 27 := rfl
theorem ftl_X0_revive_27 : F_X0_revive_20 27 = J_iload 2 28 := rfl
theorem ftl_X0_revive_28 : F_X0_revive_20 28 = J_iconst 1 29 := rfl
theorem ftl_X0_revive_29 : F_X0_revive_20 29 = J_callV 4 S_X4_restart 2 32 := rfl
theorem ftl_X0_revive_32 : F_X0_revive_20 32 = J_aload 1 33 := rfl
theorem ftl_X0_revive_33 : F_X0_revive_20 33 = J_iconst 4 34 := rfl
theorem ftl_X0_revive_34 : F_X0_revive_20 34 = J_callV 4 S_X4_postsIn 1 37 := rfl
theorem ftl_X0_revive_37 : F_X0_revive_20 37 = J_callS S_J6_bitCount_0f7a4 1 40 := rfl
theorem ftl_X0_revive_40 : F_X0_revive_20 40 = J_ireturn 0 0 := rfl
theorem F_X0_revive_20_ok : jOK Y_X0_revive none (F_X0_revive_20) := (jOK_node (jOK_node (jOK_node (jOK_leaf (sn_iceq dX0_revive_20 rfl rfl)) (jOK_node (jOK_leaf (sn_bipush dX0_revive_23 rfl rfl)) (jOK_leaf (sn_ireturn dX0_revive_25 rfl rfl)))) (jOK_node (jOK_leaf (sn_aload_n dX0_revive_26 rfl rfl)) (jOK_node (jOK_leaf (sn_iload_n dX0_revive_27 rfl rfl)) (jOK_leaf (sn_iconst dX0_revive_28 rfl rfl))))) (jOK_node (jOK_node (jOK_leaf (sn_callV (Y' := Y_X4_restart) ok_X4_restart dX0_revive_29 rfl rfl rfl tw_423 tw_155 tw_156 tw_5 jc_X4_restart rfl ⟨by decide, by decide, rfl⟩ ⟨by decide, by decide⟩)) (jOK_node (jOK_leaf (sn_aload_n dX0_revive_32 rfl rfl)) (jOK_leaf (sn_iconst dX0_revive_33 rfl rfl)))) (jOK_node (jOK_leaf (sn_callV (Y' := Y_X4_postsIn) ok_X4_postsIn dX0_revive_34 rfl rfl rfl tw_456 tw_263 tw_264 tw_5 jc_X4_postsIn rfl ⟨by decide, by decide, rfl⟩ ⟨by decide, by decide⟩)) (jOK_node (jOK_leaf (sn_callS (Y' := Y_J6_bitCount_0f7a4) ok_J6_bitCount_0f7a4 dX0_revive_37 rfl rfl tw_457 tw_458 tw_11 jc_J6_bitCount_0f7a4 ⟨by decide, by decide, rfl⟩ ⟨by decide, by decide⟩)) (jOK_leaf (sn_ireturn dX0_revive_40 rfl rfl))))))
def F_X0_revive_0_40 : Nat → jT := fun pc => bif Nat.blt pc 20 then F_X0_revive_0 pc else F_X0_revive_20 pc
theorem F_X0_revive_0_40_ok : jOK Y_X0_revive none (F_X0_revive_0_40) := jOK_node (F_X0_revive_0_ok) (F_X0_revive_20_ok)
def F_X0_revive : Nat → jT := F_X0_revive_0_40
theorem OK_X0_revive : jOK Y_X0_revive none (F_X0_revive) := F_X0_revive_0_40_ok
theorem ft_X0_revive_0 : F_X0_revive 0 = J_aload 0 1 := ftl_X0_revive_0
theorem ft_X0_revive_1 : F_X0_revive 1 = J_getfield 0 0 4 := ftl_X0_revive_1
theorem ft_X0_revive_4 : F_X0_revive 4 = J_iload 2 5 := ftl_X0_revive_4
theorem ft_X0_revive_5 : F_X0_revive 5 = J_callV 3 S_X3_hasPost 1 8 := ftl_X0_revive_5
theorem ft_X0_revive_8 : F_X0_revive 8 = J_ifne 13 11 := ftl_X0_revive_8
theorem ft_X0_revive_11 : F_X0_revive 11 = J_iconst (-1) 12 := ftl_X0_revive_11
theorem ft_X0_revive_12 : F_X0_revive 12 = J_ireturn 0 0 := ftl_X0_revive_12
theorem ft_X0_revive_13 : F_X0_revive 13 = J_aload 1 14 := ftl_X0_revive_13
theorem ft_X0_revive_14 : F_X0_revive 14 = J_iload 2 15 := ftl_X0_revive_14
theorem ft_X0_revive_15 : F_X0_revive 15 = J_iconst 2 16 := ftl_X0_revive_15
theorem ft_X0_revive_16 : F_X0_revive 16 = J_callV 4 S_X4_get 2 19 := ftl_X0_revive_16
theorem ft_X0_revive_19 : F_X0_revive 19 = J_iconst 4 20 := ftl_X0_revive_19
theorem ft_X0_revive_20 : F_X0_revive 20 = J_iceq 26 23 := ftl_X0_revive_20
theorem ft_X0_revive_23 : F_X0_revive 23 = J_iconst (-3) 25 := ftl_X0_revive_23
theorem ft_X0_revive_25 : F_X0_revive 25 = J_ireturn 0 0 := ftl_X0_revive_25
theorem ft_X0_revive_26 : F_X0_revive 26 = J_aload 1 27 := ftl_X0_revive_26
theorem ft_X0_revive_27 : F_X0_revive 27 = J_iload 2 28 := ftl_X0_revive_27
theorem ft_X0_revive_28 : F_X0_revive 28 = J_iconst 1 29 := ftl_X0_revive_28
theorem ft_X0_revive_29 : F_X0_revive 29 = J_callV 4 S_X4_restart 2 32 := ftl_X0_revive_29
theorem ft_X0_revive_32 : F_X0_revive 32 = J_aload 1 33 := ftl_X0_revive_32
theorem ft_X0_revive_33 : F_X0_revive 33 = J_iconst 4 34 := ftl_X0_revive_33
theorem ft_X0_revive_34 : F_X0_revive 34 = J_callV 4 S_X4_postsIn 1 37 := ftl_X0_revive_34
theorem ft_X0_revive_37 : F_X0_revive 37 = J_callS S_J6_bitCount_0f7a4 1 40 := ftl_X0_revive_37
theorem ft_X0_revive_40 : F_X0_revive 40 = J_ireturn 0 0 := ftl_X0_revive_40
def S_X0_revive : jSp := fun nb vs mem Q => jcs vs ≤ 3 ∧ jrun F_X0_revive [] 100 Q (fun _ _ _ _ _ => False) 0 (jargs vs ++ []) [] mem (nb, 0, 0)
theorem ok_X0_revive : jMeets Y_X0_revive S_X0_revive := fun _ _ _ _ h => Ok.inl OK_X0_revive 100 [] pn0 rfl h
theorem s_X0_revive {nb s : Nat} {C : Nat → Nat → Int32} {z : Nat → Int64} {p : Int32} {Q : jQ} (h : jSt s 94) : S_X0_revive nb [.ref 6, .ref s, .int p] (memS 94 C z) Q = pick (okPost C p) (pick (rget (C s) p 2 = 4) (Q (some (.int (bcF (postsInF (rstartF (C s) p 1) 4)))) (memS 94 (hrow C s (rstartF (C s) p 1)) z)) (Q (some (.int (-3))) (memS 94 C z))) (Q (some (.int (-1))) (memS 94 C z)) := by
  refine (eq_le rfl).trans ?_
  simp -implicitDefEqProofs only [jr_0, jr_1, jr_2, j_iconst, j_lconst, j_iload0, j_aload0, j_istore0, j_astore0, j_iinc0, j_iload1, j_aload1, j_istore1, j_astore1, j_iinc1, j_iload2, j_aload2, j_istore2, j_astore2, j_iinc2, j_iload3, j_aload3, j_istore3, j_astore3, j_iinc3, j_iload4, j_aload4, j_istore4, j_astore4, j_iinc4, j_iload5, j_aload5, j_istore5, j_astore5, j_iinc5, j_iload6, j_aload6, j_istore6, j_astore6, j_iinc6, j_iload7, j_aload7, j_istore7, j_astore7, j_iinc7, j_iload8, j_aload8, j_istore8, j_astore8, j_iinc8, j_iadd, j_isub, j_imul, j_iand, j_ior, j_ixor, j_ishl, j_ishr, j_iushr, j_idiv, j_irem, j_ineg, j_ladd, j_lmul, j_land, j_lor, j_lcmp, j_lushr, j_lshl, j_i2l, j_l2i, j_dupI, j_dupR, j_popI, j_dup2, j_ifeq, j_iceq, j_ifne, j_icne, j_iflt, j_iclt, j_ifge, j_icge, j_ifgt, j_icgt, j_ifle, j_icle, j_goto, j_tsw, j_sw0, j_sw1, j_ireturn, j_zreturn, j_lreturn, j_return, j_getfield, j_putI, j_putJ, j_putR, j_iaload, j_baload, j_iastore, j_bastore, j_aaload, j_q, j_aastore, j_acopy, j_mmin, j_mmax, j_mabs, j_objinit, j_new, j_newI, j_newQ, j_sld, j_slen, j_callV0, j_callI0, j_callS0, j_callV1, j_callI1, j_callS1, j_callV2, j_callI2, j_callS2, j_callV3, j_callS3, j_callV4, j_callS4, j_callV5, j_callS5, j_pushS, j_pushN, j_sh0, j_sh1, j_sh2, j_sh3, j_sh4, Int32.reduceAdd, Int32.reduceMul, Int32.reduceSub, Int32.reduceLT, Int32.reduceLE, eq_self, i32_10, i32_01, ne_eq, hrow_s, hrow_n, ne10, ne100, ne1000, ne7, ne4, ne14, ne9973, or_true, true_or, or_false, false_or, not_true_eq_false, not_false_eq_true, false_implies, implies_true, and_true, forall_const, true_implies, jargs_n, jargs_r, jargs_i, List.cons_append, List.nil_append, true_and, Nat.reduceEqDiff, reduceIte, ft_X0_revive_0, ft_X0_revive_1, ft_X0_revive_4, ft_X0_revive_5, ft_X0_revive_8, ft_X0_revive_11, ft_X0_revive_12, ft_X0_revive_13, ft_X0_revive_14, ft_X0_revive_15, ft_X0_revive_16, ft_X0_revive_19, ft_X0_revive_20, ft_X0_revive_23, ft_X0_revive_25, ft_X0_revive_26, ft_X0_revive_27, ft_X0_revive_28, ft_X0_revive_29, ft_X0_revive_32, ft_X0_revive_33, ft_X0_revive_34, ft_X0_revive_37, ft_X0_revive_40, jrcv_st h, rc_3, fl_6_0, s_okPost jD94, s_X4_get h, s_X4_restart h, s_X4_postsIn h, s_J6_bitCount, zb_0, hrow_hrow]
  by_cases h1 : okPost C p <;> by_cases h2 : rget (C s) p 2 = 4 <;> simp [pick, h1, h2]
def F_X0_changeLimit_0 : Nat → jT := fun pc => (bif Nat.blt pc 13 then (bif Nat.blt pc 5 then (bif Nat.blt pc 1 then (bif Nat.beq pc 0 then J_iload 2 1 else jbad) else (bif Nat.blt pc 4 then (bif Nat.beq pc 1 then J_iflt 10 4 else jbad) else (bif Nat.beq pc 4 then J_iload 2 5 else jbad))) else (bif Nat.blt pc 10 then (bif Nat.blt pc 7 then (bif Nat.beq pc 5 then J_iconst 99 7 else jbad) else (bif Nat.beq pc 7 then J_icle 13 10 else jbad)) else (bif Nat.blt pc 12 then (bif Nat.beq pc 10 then J_iconst (-2) 12 else jbad) else (bif Nat.beq pc 12 then J_ireturn 0 0 else jbad)))) else (bif Nat.blt pc 19 then (bif Nat.blt pc 17 then (bif Nat.blt pc 14 then (bif Nat.beq pc 13 then J_aload 1 14 else jbad) else (bif Nat.beq pc 14 then J_getfield 4 2 17 else jbad)) else (bif Nat.blt pc 18 then (bif Nat.beq pc 17 then J_istore 3 18 else jbad) else (bif Nat.beq pc 18 then J_aload 1 19 else jbad))) else (bif Nat.blt pc 23 then (bif Nat.blt pc 20 then (bif Nat.beq pc 19 then J_iload 2 20 else jbad) else (bif Nat.beq pc 20 then J_putI 4 2 23 else jbad)) else (bif Nat.blt pc 24 then (bif Nat.beq pc 23 then J_iload 3 24 else jbad) else (bif Nat.beq pc 24 then J_ireturn 0 0 else jbad)))))
theorem ftl_X0_changeLimit_0 : F_X0_changeLimit_0 0 = J_iload 2 1 := rfl
theorem ftl_X0_changeLimit_1 : F_X0_changeLimit_0 1 = J_iflt 10 4 := rfl
theorem ftl_X0_changeLimit_4 : F_X0_changeLimit_0 4 = J_iload 2 5 := rfl
theorem ftl_X0_changeLimit_5 : F_X0_changeLimit_0 5 = J_iconst 99 7 := rfl
theorem ftl_X0_changeLimit_7 : F_X0_changeLimit_0 7 = J_icle 13 10 := rfl
theorem ftl_X0_changeLimit_10 : F_X0_changeLimit_0 10 = J_iconst (-2) 12 := rfl
theorem ftl_X0_changeLimit_12 : F_X0_changeLimit_0 12 = J_ireturn 0 0 := rfl
theorem ftl_X0_changeLimit_13 : F_X0_changeLimit_0 13 = J_aload 1 14 := rfl
theorem ftl_X0_changeLimit_14 : F_X0_changeLimit_0 14 = J_getfield 4 2 17 := rfl
theorem ftl_X0_changeLimit_17 : F_X0_changeLimit_0 17 = J_istore 3 18 := rfl
theorem ftl_X0_changeLimit_18 : F_X0_changeLimit_0 18 = J_aload 1 19 := rfl
theorem ftl_X0_changeLimit_19 : F_X0_changeLimit_0 19 = J_iload 2 20 := rfl
theorem ftl_X0_changeLimit_20 : F_X0_changeLimit_0 20 = J_putI 4 2 23 := rfl
theorem ftl_X0_changeLimit_23 : F_X0_changeLimit_0 23 = J_iload 3 24 := rfl
theorem ftl_X0_changeLimit_24 : F_X0_changeLimit_0 24 = J_ireturn 0 0 := rfl
theorem F_X0_changeLimit_0_ok : jOK Y_X0_changeLimit none (F_X0_changeLimit_0) := (jOK_node (jOK_node (jOK_node (jOK_leaf (sn_iload_n dX0_changeLimit_0 rfl rfl)) (jOK_node (jOK_leaf (sn_iflt dX0_changeLimit_1 rfl rfl)) (jOK_leaf (sn_iload_n dX0_changeLimit_4 rfl rfl)))) (jOK_node (jOK_node (jOK_leaf (sn_bipush dX0_changeLimit_5 rfl rfl)) (jOK_leaf (sn_icle dX0_changeLimit_7 rfl rfl))) (jOK_node (jOK_leaf (sn_bipush dX0_changeLimit_10 rfl rfl)) (jOK_leaf (sn_ireturn dX0_changeLimit_12 rfl rfl))))) (jOK_node (jOK_node (jOK_node (jOK_leaf (sn_aload_n dX0_changeLimit_13 rfl rfl)) (jOK_leaf (sn_getfield dX0_changeLimit_14 rfl rfl (by decide) tw_93 jin4))) (jOK_node (jOK_leaf (sn_istore_n dX0_changeLimit_17 rfl rfl (by decide))) (jOK_leaf (sn_aload_n dX0_changeLimit_18 rfl rfl)))) (jOK_node (jOK_node (jOK_leaf (sn_iload_n dX0_changeLimit_19 rfl rfl)) (jOK_leaf (sn_putI tyX4 dX0_changeLimit_20 rfl rfl (by decide) tw_93 jin4 tyX4_ok nmX4 rfl rfl))) (jOK_node (jOK_leaf (sn_iload_n dX0_changeLimit_23 rfl rfl)) (jOK_leaf (sn_ireturn dX0_changeLimit_24 rfl rfl))))))
def F_X0_changeLimit : Nat → jT := F_X0_changeLimit_0
theorem OK_X0_changeLimit : jOK Y_X0_changeLimit none (F_X0_changeLimit) := F_X0_changeLimit_0_ok
theorem ft_X0_changeLimit_0 : F_X0_changeLimit 0 = J_iload 2 1 := ftl_X0_changeLimit_0
theorem ft_X0_changeLimit_1 : F_X0_changeLimit 1 = J_iflt 10 4 := ftl_X0_changeLimit_1
theorem ft_X0_changeLimit_4 : F_X0_changeLimit 4 = J_iload 2 5 := ftl_X0_changeLimit_4
theorem ft_X0_changeLimit_5 : F_X0_changeLimit 5 = J_iconst 99 7 := ftl_X0_changeLimit_5
theorem ft_X0_changeLimit_7 : F_X0_changeLimit 7 = J_icle 13 10 := ftl_X0_changeLimit_7
theorem ft_X0_changeLimit_10 : F_X0_changeLimit 10 = J_iconst (-2) 12 := ftl_X0_changeLimit_10
theorem ft_X0_changeLimit_12 : F_X0_changeLimit 12 = J_ireturn 0 0 := ftl_X0_changeLimit_12
theorem ft_X0_changeLimit_13 : F_X0_changeLimit 13 = J_aload 1 14 := ftl_X0_changeLimit_13
theorem ft_X0_changeLimit_14 : F_X0_changeLimit 14 = J_getfield 4 2 17 := ftl_X0_changeLimit_14
theorem ft_X0_changeLimit_17 : F_X0_changeLimit 17 = J_istore 3 18 := ftl_X0_changeLimit_17
theorem ft_X0_changeLimit_18 : F_X0_changeLimit 18 = J_aload 1 19 := ftl_X0_changeLimit_18
theorem ft_X0_changeLimit_19 : F_X0_changeLimit 19 = J_iload 2 20 := ftl_X0_changeLimit_19
theorem ft_X0_changeLimit_20 : F_X0_changeLimit 20 = J_putI 4 2 23 := ftl_X0_changeLimit_20
theorem ft_X0_changeLimit_23 : F_X0_changeLimit 23 = J_iload 3 24 := ftl_X0_changeLimit_23
theorem ft_X0_changeLimit_24 : F_X0_changeLimit 24 = J_ireturn 0 0 := ftl_X0_changeLimit_24
def S_X0_changeLimit : jSp := fun nb vs mem Q => jcs vs ≤ 4 ∧ jrun F_X0_changeLimit [] 60 Q (fun _ _ _ _ _ => False) 0 (jargs vs ++ [none]) [] mem (nb, 0, 0)
theorem ok_X0_changeLimit : jMeets Y_X0_changeLimit S_X0_changeLimit := fun _ _ _ _ h => Ok.inl OK_X0_changeLimit 60 [none] pn0 rfl h
theorem s_X0_changeLimit {nb s : Nat} {C : Nat → Nat → Int32} {z : Nat → Int64} {v : Int32} {Q : jQ} (h : jSt s 94) : S_X0_changeLimit nb [.ref 6, .ref s, .int v] (memS 94 C z) Q = pick (¬ v < 0 ∧ v ≤ 99) (Q (some (.int (C s 38))) (memS 94 (hrow C s (upd (C s) 38 v)) z)) (Q (some (.int (-2))) (memS 94 C z)) := by
  refine (eq_le rfl).trans ?_
  simp -implicitDefEqProofs only [jr_0, jr_1, jr_2, j_iconst, j_lconst, j_iload0, j_aload0, j_istore0, j_astore0, j_iinc0, j_iload1, j_aload1, j_istore1, j_astore1, j_iinc1, j_iload2, j_aload2, j_istore2, j_astore2, j_iinc2, j_iload3, j_aload3, j_istore3, j_astore3, j_iinc3, j_iload4, j_aload4, j_istore4, j_astore4, j_iinc4, j_iload5, j_aload5, j_istore5, j_astore5, j_iinc5, j_iload6, j_aload6, j_istore6, j_astore6, j_iinc6, j_iload7, j_aload7, j_istore7, j_astore7, j_iinc7, j_iload8, j_aload8, j_istore8, j_astore8, j_iinc8, j_iadd, j_isub, j_imul, j_iand, j_ior, j_ixor, j_ishl, j_ishr, j_iushr, j_idiv, j_irem, j_ineg, j_ladd, j_lmul, j_land, j_lor, j_lcmp, j_lushr, j_lshl, j_i2l, j_l2i, j_dupI, j_dupR, j_popI, j_dup2, j_ifeq, j_iceq, j_ifne, j_icne, j_iflt, j_iclt, j_ifge, j_icge, j_ifgt, j_icgt, j_ifle, j_icle, j_goto, j_tsw, j_sw0, j_sw1, j_ireturn, j_zreturn, j_lreturn, j_return, j_getfield, j_putI, j_putJ, j_putR, j_iaload, j_baload, j_iastore, j_bastore, j_aaload, j_q, j_aastore, j_acopy, j_mmin, j_mmax, j_mabs, j_objinit, j_new, j_newI, j_newQ, j_sld, j_slen, j_callV0, j_callI0, j_callS0, j_callV1, j_callI1, j_callS1, j_callV2, j_callI2, j_callS2, j_callV3, j_callS3, j_callV4, j_callS4, j_callV5, j_callS5, j_pushS, j_pushN, j_sh0, j_sh1, j_sh2, j_sh3, j_sh4, Int32.reduceAdd, Int32.reduceMul, Int32.reduceSub, Int32.reduceLT, Int32.reduceLE, eq_self, i32_10, i32_01, ne_eq, hrow_s, hrow_n, ne10, ne100, ne1000, ne7, ne4, ne14, ne9973, or_true, true_or, or_false, false_or, not_true_eq_false, not_false_eq_true, false_implies, implies_true, and_true, forall_const, true_implies, jargs_n, jargs_r, jargs_i, List.cons_append, List.nil_append, true_and, Nat.reduceEqDiff, reduceIte, ft_X0_changeLimit_0, ft_X0_changeLimit_1, ft_X0_changeLimit_4, ft_X0_changeLimit_5, ft_X0_changeLimit_7, ft_X0_changeLimit_10, ft_X0_changeLimit_12, ft_X0_changeLimit_13, ft_X0_changeLimit_14, ft_X0_changeLimit_17, ft_X0_changeLimit_18, ft_X0_changeLimit_19, ft_X0_changeLimit_20, ft_X0_changeLimit_23, ft_X0_changeLimit_24, jfld_s2 h, jput_s2 h]
  by_cases h1 : v < 0 <;> by_cases h2 : v ≤ 99 <;> simp [pick, h1, h2]
/-! passMinutes -/
noncomputable def passF (C : Nat → Nat → Int32) (P : Nat) (sil fed l : Int32) (n : Nat) (s : Nat) : jR3 := itM (mnF (C 5) (C 4) (C 3 5) P sil fed l) n (C s, C 7, C 8)
theorem s_pass {nb s P n : Nat} {C : Nat → Nat → Int32} {z : Nat → Int64} {sil fed l : Int32} {Q : jQ} (hn : n < 2 ^ 31) (hs : jSt s 94) (hP : C 3 2 = nI P) (hP4 : P ≤ 4) (hQ : Q none (memS 94 (st3 C s (passF C P sil fed l n s)) z)) : S_X0_pass nb [.ref 6, .ref s, .int (nI n), .int sil, .int fed, .int l] (memS 94 C z) Q := s_X0_pass hs hP hP4 (by rw [nI_clamp hn]; exact hQ)
def S_X0_passMinutes : jSp := fun _ vs mem Q => ∃ C z s P, ∃ n : Int32, vs = [.ref 6, .ref s, .int n] ∧ mem = memS 94 C z ∧ jSt s 94 ∧ C 3 2 = nI P ∧ P ≤ 4 ∧ pick (1 ≤ n ∧ n ≤ 99) (Q (some (.int (metersF (passF C P 15 15 (-1) n.toNatClampNeg s).1))) (memS 94 (st3 C s (passF C P 15 15 (-1) n.toNatClampNeg s)) z)) (Q (some (.int (-2))) (memS 94 C z))
def F_X0_passMinutes_0 : Nat → jT := fun pc => (bif Nat.blt pc 6 then (bif Nat.blt pc 2 then (bif Nat.blt pc 1 then (bif Nat.beq pc 0 then J_iload 2 1 else jbad) else (bif Nat.beq pc 1 then J_iconst 1 2 else jbad)) else (bif Nat.blt pc 5 then (bif Nat.beq pc 2 then J_iclt 11 5 else jbad) else (bif Nat.beq pc 5 then J_iload 2 6 else jbad))) else (bif Nat.blt pc 11 then (bif Nat.blt pc 8 then (bif Nat.beq pc 6 then J_iconst 99 8 else jbad) else (bif Nat.beq pc 8 then J_icle 14 11 else jbad)) else (bif Nat.blt pc 13 then (bif Nat.beq pc 11 then J_iconst (-2) 13 else jbad) else (bif Nat.blt pc 14 then (bif Nat.beq pc 13 then J_ireturn 0 0 else jbad) else (bif Nat.beq pc 14 then J_aload 0 15 else jbad)))))
theorem ftl_X0_passMinutes_0 : F_X0_passMinutes_0 0 = J_iload 2 1 := rfl
theorem ftl_X0_passMinutes_1 : F_X0_passMinutes_0 1 = J_iconst 1 2 := rfl
theorem ftl_X0_passMinutes_2 : F_X0_passMinutes_0 2 = J_iclt 11 5 := rfl
theorem ftl_X0_passMinutes_5 : F_X0_passMinutes_0 5 = J_iload 2 6 := rfl
theorem ftl_X0_passMinutes_6 : F_X0_passMinutes_0 6 = J_iconst 99 8 := rfl
theorem ftl_X0_passMinutes_8 : F_X0_passMinutes_0 8 = J_icle 14 11 := rfl
theorem ftl_X0_passMinutes_11 : F_X0_passMinutes_0 11 = J_iconst (-2) 13 := rfl
theorem ftl_X0_passMinutes_13 : F_X0_passMinutes_0 13 = J_ireturn 0 0 := rfl
theorem ftl_X0_passMinutes_14 : F_X0_passMinutes_0 14 = J_aload 0 15 := rfl
theorem F_X0_passMinutes_0_ok : jOK Y_X0_passMinutes none (F_X0_passMinutes_0) := (jOK_node (jOK_node (jOK_node (jOK_leaf (sn_iload_n dX0_passMinutes_0 rfl rfl)) (jOK_leaf (sn_iconst dX0_passMinutes_1 rfl rfl))) (jOK_node (jOK_leaf (sn_iclt dX0_passMinutes_2 rfl rfl)) (jOK_leaf (sn_iload_n dX0_passMinutes_5 rfl rfl)))) (jOK_node (jOK_node (jOK_leaf (sn_bipush dX0_passMinutes_6 rfl rfl)) (jOK_leaf (sn_icle dX0_passMinutes_8 rfl rfl))) (jOK_node (jOK_leaf (sn_bipush dX0_passMinutes_11 rfl rfl)) (jOK_node (jOK_leaf (sn_ireturn dX0_passMinutes_13 rfl rfl)) (jOK_leaf (sn_aload_n dX0_passMinutes_14 rfl rfl))))))
def F_X0_passMinutes_15 : Nat → jT := fun pc => (bif Nat.blt pc 21 then (bif Nat.blt pc 17 then (bif Nat.blt pc 16 then (bif Nat.beq pc 15 then J_aload 1 16 else jbad) else (bif Nat.beq pc 16 then J_iload 2 17 else jbad)) else (bif Nat.blt pc 19 then (bif Nat.beq pc 17 then J_iconst 15 19 else jbad) else (bif Nat.beq pc 19 then J_iconst 15 21 else jbad))) else (bif Nat.blt pc 25 then (bif Nat.blt pc 22 then (bif Nat.beq pc 21 then J_iconst (-1) 22 else jbad) else (bif Nat.beq pc 22 then J_callV 0 S_X0_pass 5 25 else jbad)) else (bif Nat.blt pc 26 then (bif Nat.beq pc 25 then J_aload 1 26 else jbad) else (bif Nat.blt pc 29 then (bif Nat.beq pc 26 then J_callV 4 S_X4_meters 0 29 else jbad) else (bif Nat.beq pc 29 then J_ireturn 0 0 else jbad)))))
theorem ftl_X0_passMinutes_15 : F_X0_passMinutes_15 15 = J_aload 1 16 := rfl
theorem ftl_X0_passMinutes_16 : F_X0_passMinutes_15 16 = J_iload 2 17 := rfl
theorem ftl_X0_passMinutes_17 : F_X0_passMinutes_15 17 = J_iconst 15 19 := rfl
theorem ftl_X0_passMinutes_19 : F_X0_passMinutes_15 19 = J_iconst 15 21 := rfl
theorem ftl_X0_passMinutes_21 : F_X0_passMinutes_15 21 = J_iconst (-1) 22 := rfl
theorem ftl_X0_passMinutes_22 : F_X0_passMinutes_15 22 = J_callV 0 S_X0_pass 5 25 := rfl
theorem ftl_X0_passMinutes_25 : F_X0_passMinutes_15 25 = J_aload 1 26 := rfl
theorem ftl_X0_passMinutes_26 : F_X0_passMinutes_15 26 = J_callV 4 S_X4_meters 0 29 := rfl
theorem ftl_X0_passMinutes_29 : F_X0_passMinutes_15 29 = J_ireturn 0 0 := rfl
theorem F_X0_passMinutes_15_ok : jOK Y_X0_passMinutes none (F_X0_passMinutes_15) := (jOK_node (jOK_node (jOK_node (jOK_leaf (sn_aload_n dX0_passMinutes_15 rfl rfl)) (jOK_leaf (sn_iload_n dX0_passMinutes_16 rfl rfl))) (jOK_node (jOK_leaf (sn_bipush dX0_passMinutes_17 rfl rfl)) (jOK_leaf (sn_bipush dX0_passMinutes_19 rfl rfl)))) (jOK_node (jOK_node (jOK_leaf (sn_iconst dX0_passMinutes_21 rfl rfl)) (jOK_leaf (sn_callV (Y' := Y_X0_pass) ok_X0_pass dX0_passMinutes_22 rfl rfl rfl tw_342 tw_343 tw_344 tw_4 jc_X0_pass rfl ⟨by decide, by decide, rfl⟩ ⟨by decide, by decide⟩))) (jOK_node (jOK_leaf (sn_aload_n dX0_passMinutes_25 rfl rfl)) (jOK_node (jOK_leaf (sn_callV (Y' := Y_X4_meters) ok_X4_meters dX0_passMinutes_26 rfl rfl rfl tw_401 tw_271 tw_272 tw_5 jc_X4_meters rfl ⟨by decide, by decide, rfl⟩ ⟨by decide, by decide⟩)) (jOK_leaf (sn_ireturn dX0_passMinutes_29 rfl rfl))))))
def F_X0_passMinutes_0_29 : Nat → jT := fun pc => bif Nat.blt pc 15 then F_X0_passMinutes_0 pc else F_X0_passMinutes_15 pc
theorem F_X0_passMinutes_0_29_ok : jOK Y_X0_passMinutes none (F_X0_passMinutes_0_29) := jOK_node (F_X0_passMinutes_0_ok) (F_X0_passMinutes_15_ok)
def F_X0_passMinutes : Nat → jT := F_X0_passMinutes_0_29
theorem OK_X0_passMinutes : jOK Y_X0_passMinutes none (F_X0_passMinutes) := F_X0_passMinutes_0_29_ok
theorem ft_X0_passMinutes_0 : F_X0_passMinutes 0 = J_iload 2 1 := ftl_X0_passMinutes_0
theorem ft_X0_passMinutes_1 : F_X0_passMinutes 1 = J_iconst 1 2 := ftl_X0_passMinutes_1
theorem ft_X0_passMinutes_2 : F_X0_passMinutes 2 = J_iclt 11 5 := ftl_X0_passMinutes_2
theorem ft_X0_passMinutes_5 : F_X0_passMinutes 5 = J_iload 2 6 := ftl_X0_passMinutes_5
theorem ft_X0_passMinutes_6 : F_X0_passMinutes 6 = J_iconst 99 8 := ftl_X0_passMinutes_6
theorem ft_X0_passMinutes_8 : F_X0_passMinutes 8 = J_icle 14 11 := ftl_X0_passMinutes_8
theorem ft_X0_passMinutes_11 : F_X0_passMinutes 11 = J_iconst (-2) 13 := ftl_X0_passMinutes_11
theorem ft_X0_passMinutes_13 : F_X0_passMinutes 13 = J_ireturn 0 0 := ftl_X0_passMinutes_13
theorem ft_X0_passMinutes_14 : F_X0_passMinutes 14 = J_aload 0 15 := ftl_X0_passMinutes_14
theorem ft_X0_passMinutes_15 : F_X0_passMinutes 15 = J_aload 1 16 := ftl_X0_passMinutes_15
theorem ft_X0_passMinutes_16 : F_X0_passMinutes 16 = J_iload 2 17 := ftl_X0_passMinutes_16
theorem ft_X0_passMinutes_17 : F_X0_passMinutes 17 = J_iconst 15 19 := ftl_X0_passMinutes_17
theorem ft_X0_passMinutes_19 : F_X0_passMinutes 19 = J_iconst 15 21 := ftl_X0_passMinutes_19
theorem ft_X0_passMinutes_21 : F_X0_passMinutes 21 = J_iconst (-1) 22 := ftl_X0_passMinutes_21
theorem ft_X0_passMinutes_22 : F_X0_passMinutes 22 = J_callV 0 S_X0_pass 5 25 := ftl_X0_passMinutes_22
theorem ft_X0_passMinutes_25 : F_X0_passMinutes 25 = J_aload 1 26 := ftl_X0_passMinutes_25
theorem ft_X0_passMinutes_26 : F_X0_passMinutes 26 = J_callV 4 S_X4_meters 0 29 := ftl_X0_passMinutes_26
theorem ft_X0_passMinutes_29 : F_X0_passMinutes 29 = J_ireturn 0 0 := ftl_X0_passMinutes_29
theorem ok_X0_passMinutes : jMeets Y_X0_passMinutes S_X0_passMinutes := by
  intro nb vs mem Q h
  obtain ⟨C, z, s, P, n, rfl, rfl, hs, hP, hP4, hQ⟩ := h
  refine Ok.run OK_X0_passMinutes [] 60 [] pn0 (Nat.le_of_ble_eq_true rfl) rfl ?_
  simp -implicitDefEqProofs only [jr_0, jr_1, jr_2, j_iconst, j_lconst, j_iload0, j_aload0, j_istore0, j_astore0, j_iinc0, j_iload1, j_aload1, j_istore1, j_astore1, j_iinc1, j_iload2, j_aload2, j_istore2, j_astore2, j_iinc2, j_iload3, j_aload3, j_istore3, j_astore3, j_iinc3, j_iload4, j_aload4, j_istore4, j_astore4, j_iinc4, j_iload5, j_aload5, j_istore5, j_astore5, j_iinc5, j_iload6, j_aload6, j_istore6, j_astore6, j_iinc6, j_iload7, j_aload7, j_istore7, j_astore7, j_iinc7, j_iload8, j_aload8, j_istore8, j_astore8, j_iinc8, j_iadd, j_isub, j_imul, j_iand, j_ior, j_ixor, j_ishl, j_ishr, j_iushr, j_idiv, j_irem, j_ineg, j_ladd, j_lmul, j_land, j_lor, j_lcmp, j_lushr, j_lshl, j_i2l, j_l2i, j_dupI, j_dupR, j_popI, j_dup2, j_ifeq, j_iceq, j_ifne, j_icne, j_iflt, j_iclt, j_ifge, j_icge, j_ifgt, j_icgt, j_ifle, j_icle, j_goto, j_tsw, j_sw0, j_sw1, j_ireturn, j_zreturn, j_lreturn, j_return, j_getfield, j_putI, j_putJ, j_putR, j_iaload, j_baload, j_iastore, j_bastore, j_aaload, j_q, j_aastore, j_acopy, j_mmin, j_mmax, j_mabs, j_objinit, j_new, j_newI, j_newQ, j_sld, j_slen, j_callV0, j_callI0, j_callS0, j_callV1, j_callI1, j_callS1, j_callV2, j_callI2, j_callS2, j_callV3, j_callS3, j_callV4, j_callS4, j_callV5, j_callS5, j_pushS, j_pushN, j_sh0, j_sh1, j_sh2, j_sh3, j_sh4, Int32.reduceAdd, Int32.reduceMul, Int32.reduceSub, Int32.reduceLT, Int32.reduceLE, eq_self, i32_10, i32_01, ne_eq, hrow_s, hrow_n, ne10, ne100, ne1000, ne7, ne4, ne14, ne9973, or_true, true_or, or_false, false_or, not_true_eq_false, not_false_eq_true, false_implies, implies_true, and_true, forall_const, true_implies, jargs_n, jargs_r, jargs_i, List.cons_append, List.nil_append, true_and, Nat.reduceEqDiff, reduceIte, ft_X0_passMinutes_0, ft_X0_passMinutes_1, ft_X0_passMinutes_2, ft_X0_passMinutes_5, ft_X0_passMinutes_6, ft_X0_passMinutes_8, ft_X0_passMinutes_11, ft_X0_passMinutes_13, ft_X0_passMinutes_14, ft_X0_passMinutes_15, ft_X0_passMinutes_16, ft_X0_passMinutes_17, ft_X0_passMinutes_19, ft_X0_passMinutes_21, ft_X0_passMinutes_22, ft_X0_passMinutes_25, ft_X0_passMinutes_26, ft_X0_passMinutes_29, rc_6, jrcv_st hs]
  by_cases h1 : 1 ≤ n ∧ n ≤ 99
  · rw [pick_t h1] at hQ
    refine ⟨fun q => absurd h1.1 (Int32.not_le.mpr q), fun _ => ⟨fun _ => ?_, fun q => absurd h1.2 q⟩⟩
    refine s_X0_pass hs hP hP4 ?_
    simp -implicitDefEqProofs only [jr_0, jr_1, jr_2, j_iconst, j_lconst, j_iload0, j_aload0, j_istore0, j_astore0, j_iinc0, j_iload1, j_aload1, j_istore1, j_astore1, j_iinc1, j_iload2, j_aload2, j_istore2, j_astore2, j_iinc2, j_iload3, j_aload3, j_istore3, j_astore3, j_iinc3, j_iload4, j_aload4, j_istore4, j_astore4, j_iinc4, j_iload5, j_aload5, j_istore5, j_astore5, j_iinc5, j_iload6, j_aload6, j_istore6, j_astore6, j_iinc6, j_iload7, j_aload7, j_istore7, j_astore7, j_iinc7, j_iload8, j_aload8, j_istore8, j_astore8, j_iinc8, j_iadd, j_isub, j_imul, j_iand, j_ior, j_ixor, j_ishl, j_ishr, j_iushr, j_idiv, j_irem, j_ineg, j_ladd, j_lmul, j_land, j_lor, j_lcmp, j_lushr, j_lshl, j_i2l, j_l2i, j_dupI, j_dupR, j_popI, j_dup2, j_ifeq, j_iceq, j_ifne, j_icne, j_iflt, j_iclt, j_ifge, j_icge, j_ifgt, j_icgt, j_ifle, j_icle, j_goto, j_tsw, j_sw0, j_sw1, j_ireturn, j_zreturn, j_lreturn, j_return, j_getfield, j_putI, j_putJ, j_putR, j_iaload, j_baload, j_iastore, j_bastore, j_aaload, j_q, j_aastore, j_acopy, j_mmin, j_mmax, j_mabs, j_objinit, j_new, j_newI, j_newQ, j_sld, j_slen, j_callV0, j_callI0, j_callS0, j_callV1, j_callI1, j_callS1, j_callV2, j_callI2, j_callS2, j_callV3, j_callS3, j_callV4, j_callS4, j_callV5, j_callS5, j_pushS, j_pushN, j_sh0, j_sh1, j_sh2, j_sh3, j_sh4, Int32.reduceAdd, Int32.reduceMul, Int32.reduceSub, Int32.reduceLT, Int32.reduceLE, eq_self, i32_10, i32_01, ne_eq, hrow_s, hrow_n, ne10, ne100, ne1000, ne7, ne4, ne14, ne9973, or_true, true_or, or_false, false_or, not_true_eq_false, not_false_eq_true, false_implies, implies_true, and_true, forall_const, true_implies, jargs_n, jargs_r, jargs_i, List.cons_append, List.nil_append, true_and, Nat.reduceEqDiff, reduceIte, ft_X0_passMinutes_0, ft_X0_passMinutes_1, ft_X0_passMinutes_2, ft_X0_passMinutes_5, ft_X0_passMinutes_6, ft_X0_passMinutes_8, ft_X0_passMinutes_11, ft_X0_passMinutes_13, ft_X0_passMinutes_14, ft_X0_passMinutes_15, ft_X0_passMinutes_16, ft_X0_passMinutes_17, ft_X0_passMinutes_19, ft_X0_passMinutes_21, ft_X0_passMinutes_22, ft_X0_passMinutes_25, ft_X0_passMinutes_26, ft_X0_passMinutes_29, jrcv_st hs, s_X4_meters hs, st3_s hs]
    exact hQ
  · rw [pick_f h1] at hQ
    refine ⟨fun _ => hQ, fun q1 => ⟨fun q2 => absurd ⟨Int32.not_lt.mp q1, q2⟩ h1, fun _ => hQ⟩⟩
theorem s_X0_passMinutes {nb s P : Nat} {C : Nat → Nat → Int32} {z : Nat → Int64} {n : Int32} {Q : jQ} (hs : jSt s 94) (hP : C 3 2 = nI P) (hP4 : P ≤ 4) (h : pick (1 ≤ n ∧ n ≤ 99) (Q (some (.int (metersF (passF C P 15 15 (-1) n.toNatClampNeg s).1))) (memS 94 (st3 C s (passF C P 15 15 (-1) n.toNatClampNeg s)) z)) (Q (some (.int (-2))) (memS 94 C z))) : S_X0_passMinutes nb [.ref 6, .ref s, .int n] (memS 94 C z) Q := ⟨C, z, s, P, n, rfl, rfl, hs, hP, hP4, h⟩
/-! indexOf, property -/
def idxF (o : Nat → Int32) (p : Int32) : Nat → Nat → Int32
  | 0, _ => -9
  | k + 1, i => if o i = p then nI i else idxF o p k (i + 1)
noncomputable def indexF (C : Nat → Nat → Int32) (s : Nat) (p : Int32) : Int32 := idxF (mnO (C 5) 15 (C s) (C 7)).1 p (mnO (C 5) 15 (C s) (C 7)).2 0
def S_X0_indexOf : jSp := fun _ vs mem Q => ∃ C z s, ∃ p : Int32, vs = [.ref 6, .ref s, .int p] ∧ mem = memS 94 C z ∧ jSt s 94 ∧ Q (some (.int (indexF C s p))) (memS 94 (hrow C 7 (mnO (C 5) 15 (C s) (C 7)).1) z)
def F_X0_indexOf_0 : Nat → jT := fun pc => (bif Nat.blt pc 9 then (bif Nat.blt pc 4 then (bif Nat.blt pc 1 then (bif Nat.beq pc 0 then J_aload 0 1 else jbad) else (bif Nat.blt pc 2 then (bif Nat.beq pc 1 then J_aload 1 2 else jbad) else (bif Nat.beq pc 2 then J_iconst 15 4 else jbad))) else (bif Nat.blt pc 7 then (bif Nat.beq pc 4 then J_callV 0 S_X0_arrange 2 7 else jbad) else (bif Nat.blt pc 8 then (bif Nat.beq pc 7 then J_istore 3 8 else jbad) else (bif Nat.beq pc 8 then J_iconst 0 9 else jbad)))) else (bif Nat.blt pc 14 then (bif Nat.blt pc 11 then (bif Nat.beq pc 9 then J_istore 4 11 else jbad) else (bif Nat.blt pc 13 then (bif Nat.beq pc 11 then J_iload 4 13 else jbad) else (bif Nat.beq pc 13 then J_iload 3 14 else jbad))) else (bif Nat.blt pc 17 then (bif Nat.beq pc 14 then J_icge 43 17 else jbad) else (bif Nat.blt pc 19 then (bif Nat.beq pc 17 then J_iload 4 19 else jbad) else (bif Nat.beq pc 19 then J_iconst 4 20 else jbad)))))
theorem ftl_X0_indexOf_0 : F_X0_indexOf_0 0 = J_aload 0 1 := rfl
theorem ftl_X0_indexOf_1 : F_X0_indexOf_0 1 = J_aload 1 2 := rfl
theorem ftl_X0_indexOf_2 : F_X0_indexOf_0 2 = J_iconst 15 4 := rfl
theorem ftl_X0_indexOf_4 : F_X0_indexOf_0 4 = J_callV 0 S_X0_arrange 2 7 := rfl
theorem ftl_X0_indexOf_7 : F_X0_indexOf_0 7 = J_istore 3 8 := rfl
theorem ftl_X0_indexOf_8 : F_X0_indexOf_0 8 = J_iconst 0 9 := rfl
theorem ftl_X0_indexOf_9 : F_X0_indexOf_0 9 = J_istore 4 11 := rfl
theorem ftl_X0_indexOf_11 : F_X0_indexOf_0 11 = J_iload 4 13 := rfl
theorem ftl_X0_indexOf_13 : F_X0_indexOf_0 13 = J_iload 3 14 := rfl
theorem ftl_X0_indexOf_14 : F_X0_indexOf_0 14 = J_icge 43 17 := rfl
theorem ftl_X0_indexOf_17 : F_X0_indexOf_0 17 = J_iload 4 19 := rfl
theorem ftl_X0_indexOf_19 : F_X0_indexOf_0 19 = J_iconst 4 20 := rfl
theorem F_X0_indexOf_0_ok : jOK Y_X0_indexOf none (F_X0_indexOf_0) := (jOK_node (jOK_node (jOK_node (jOK_leaf (sn_aload_n dX0_indexOf_0 rfl rfl)) (jOK_node (jOK_leaf (sn_aload_n dX0_indexOf_1 rfl rfl)) (jOK_leaf (sn_bipush dX0_indexOf_2 rfl rfl)))) (jOK_node (jOK_leaf (sn_callV (Y' := Y_X0_arrange) ok_X0_arrange dX0_indexOf_4 rfl rfl rfl tw_302 tw_304 tp_6 tw_4 jc_X0_arrange rfl ⟨by decide, by decide, rfl⟩ ⟨by decide, by decide⟩)) (jOK_node (jOK_leaf (sn_istore_n dX0_indexOf_7 rfl rfl (by decide))) (jOK_leaf (sn_iconst dX0_indexOf_8 rfl rfl))))) (jOK_node (jOK_node (jOK_leaf (sn_istore dX0_indexOf_9 rfl (by decide))) (jOK_node (jOK_leaf (sn_iload dX0_indexOf_11 rfl)) (jOK_leaf (sn_iload_n dX0_indexOf_13 rfl rfl)))) (jOK_node (jOK_leaf (sn_icge dX0_indexOf_14 rfl rfl)) (jOK_node (jOK_leaf (sn_iload dX0_indexOf_17 rfl)) (jOK_leaf (sn_iconst dX0_indexOf_19 rfl rfl))))))
def F_X0_indexOf_20 : Nat → jT := fun pc => (bif Nat.blt pc 31 then (bif Nat.blt pc 27 then (bif Nat.blt pc 23 then (bif Nat.beq pc 20 then J_icge 43 23 else jbad) else (bif Nat.blt pc 24 then (bif Nat.beq pc 23 then J_aload 0 24 else jbad) else (bif Nat.beq pc 24 then J_getfield 0 1 27 else jbad))) else (bif Nat.blt pc 29 then (bif Nat.beq pc 27 then J_iload 4 29 else jbad) else (bif Nat.blt pc 30 then (bif Nat.beq pc 29 then J_iaload 30 else jbad) else (bif Nat.beq pc 30 then J_iload 2 31 else jbad)))) else (bif Nat.blt pc 37 then (bif Nat.blt pc 34 then (bif Nat.beq pc 31 then J_icne 37 34 else jbad) else (bif Nat.blt pc 36 then (bif Nat.beq pc 34 then J_iload 4 36 else jbad) else (bif Nat.beq pc 36 then J_ireturn 0 0 else jbad))) else (bif Nat.blt pc 43 then (bif Nat.blt pc 40 then (bif Nat.beq pc 37 then J_iinc 4 1 40 else jbad) else (bif Nat.beq pc 40 then J_goto 11 else jbad)) else (bif Nat.blt pc 45 then (bif Nat.beq pc 43 then J_iconst (-9) 45 else jbad) else (bif Nat.beq pc 45 then J_ireturn 0 0 else jbad)))))
theorem ftl_X0_indexOf_20 : F_X0_indexOf_20 20 = J_icge 43 23 := rfl
theorem ftl_X0_indexOf_23 : F_X0_indexOf_20 23 = J_aload 0 24 := rfl
theorem ftl_X0_indexOf_24 : F_X0_indexOf_20 24 = J_getfield 0 1 27 := rfl
theorem ftl_X0_indexOf_27 : F_X0_indexOf_20 27 = J_iload 4 29 := rfl
theorem ftl_X0_indexOf_29 : F_X0_indexOf_20 29 = J_iaload 30 := rfl
theorem ftl_X0_indexOf_30 : F_X0_indexOf_20 30 = J_iload 2 31 := rfl
theorem ftl_X0_indexOf_31 : F_X0_indexOf_20 31 = J_icne 37 34 := rfl
theorem ftl_X0_indexOf_34 : F_X0_indexOf_20 34 = J_iload 4 36 := rfl
theorem ftl_X0_indexOf_36 : F_X0_indexOf_20 36 = J_ireturn 0 0 := rfl
theorem ftl_X0_indexOf_37 : F_X0_indexOf_20 37 = J_iinc 4 1 40 := rfl
theorem ftl_X0_indexOf_40 : F_X0_indexOf_20 40 = J_goto 11 := rfl
theorem ftl_X0_indexOf_43 : F_X0_indexOf_20 43 = J_iconst (-9) 45 := rfl
theorem ftl_X0_indexOf_45 : F_X0_indexOf_20 45 = J_ireturn 0 0 := rfl
theorem F_X0_indexOf_20_ok : jOK Y_X0_indexOf none (F_X0_indexOf_20) := (jOK_node (jOK_node (jOK_node (jOK_leaf (sn_icge dX0_indexOf_20 rfl rfl)) (jOK_node (jOK_leaf (sn_aload_n dX0_indexOf_23 rfl rfl)) (jOK_leaf (sn_getfield dX0_indexOf_24 rfl rfl (by decide) tw_74 jin0)))) (jOK_node (jOK_leaf (sn_iload dX0_indexOf_27 rfl)) (jOK_node (jOK_leaf (sn_iaload dX0_indexOf_29 rfl)) (jOK_leaf (sn_iload_n dX0_indexOf_30 rfl rfl))))) (jOK_node (jOK_node (jOK_leaf (sn_icne dX0_indexOf_31 rfl rfl)) (jOK_node (jOK_leaf (sn_iload dX0_indexOf_34 rfl)) (jOK_leaf (sn_ireturn dX0_indexOf_36 rfl rfl)))) (jOK_node (jOK_node (jOK_leaf (sn_iinc dX0_indexOf_37 rfl rfl (by decide))) (jOK_leaf (sn_goto dX0_indexOf_40 rfl))) (jOK_node (jOK_leaf (sn_bipush dX0_indexOf_43 rfl rfl)) (jOK_leaf (sn_ireturn dX0_indexOf_45 rfl rfl))))))
def F_X0_indexOf_0_45 : Nat → jT := fun pc => bif Nat.blt pc 20 then F_X0_indexOf_0 pc else F_X0_indexOf_20 pc
theorem F_X0_indexOf_0_45_ok : jOK Y_X0_indexOf none (F_X0_indexOf_0_45) := jOK_node (F_X0_indexOf_0_ok) (F_X0_indexOf_20_ok)
def F_X0_indexOf : Nat → jT := F_X0_indexOf_0_45
theorem OK_X0_indexOf : jOK Y_X0_indexOf none (F_X0_indexOf) := F_X0_indexOf_0_45_ok
theorem ft_X0_indexOf_0 : F_X0_indexOf 0 = J_aload 0 1 := ftl_X0_indexOf_0
theorem ft_X0_indexOf_1 : F_X0_indexOf 1 = J_aload 1 2 := ftl_X0_indexOf_1
theorem ft_X0_indexOf_2 : F_X0_indexOf 2 = J_iconst 15 4 := ftl_X0_indexOf_2
theorem ft_X0_indexOf_4 : F_X0_indexOf 4 = J_callV 0 S_X0_arrange 2 7 := ftl_X0_indexOf_4
theorem ft_X0_indexOf_7 : F_X0_indexOf 7 = J_istore 3 8 := ftl_X0_indexOf_7
theorem ft_X0_indexOf_8 : F_X0_indexOf 8 = J_iconst 0 9 := ftl_X0_indexOf_8
theorem ft_X0_indexOf_9 : F_X0_indexOf 9 = J_istore 4 11 := ftl_X0_indexOf_9
theorem ft_X0_indexOf_11 : F_X0_indexOf 11 = J_iload 4 13 := ftl_X0_indexOf_11
theorem ft_X0_indexOf_13 : F_X0_indexOf 13 = J_iload 3 14 := ftl_X0_indexOf_13
theorem ft_X0_indexOf_14 : F_X0_indexOf 14 = J_icge 43 17 := ftl_X0_indexOf_14
theorem ft_X0_indexOf_17 : F_X0_indexOf 17 = J_iload 4 19 := ftl_X0_indexOf_17
theorem ft_X0_indexOf_19 : F_X0_indexOf 19 = J_iconst 4 20 := ftl_X0_indexOf_19
theorem ft_X0_indexOf_20 : F_X0_indexOf 20 = J_icge 43 23 := ftl_X0_indexOf_20
theorem ft_X0_indexOf_23 : F_X0_indexOf 23 = J_aload 0 24 := ftl_X0_indexOf_23
theorem ft_X0_indexOf_24 : F_X0_indexOf 24 = J_getfield 0 1 27 := ftl_X0_indexOf_24
theorem ft_X0_indexOf_27 : F_X0_indexOf 27 = J_iload 4 29 := ftl_X0_indexOf_27
theorem ft_X0_indexOf_29 : F_X0_indexOf 29 = J_iaload 30 := ftl_X0_indexOf_29
theorem ft_X0_indexOf_30 : F_X0_indexOf 30 = J_iload 2 31 := ftl_X0_indexOf_30
theorem ft_X0_indexOf_31 : F_X0_indexOf 31 = J_icne 37 34 := ftl_X0_indexOf_31
theorem ft_X0_indexOf_34 : F_X0_indexOf 34 = J_iload 4 36 := ftl_X0_indexOf_34
theorem ft_X0_indexOf_36 : F_X0_indexOf 36 = J_ireturn 0 0 := ftl_X0_indexOf_36
theorem ft_X0_indexOf_37 : F_X0_indexOf 37 = J_iinc 4 1 40 := ftl_X0_indexOf_37
theorem ft_X0_indexOf_40 : F_X0_indexOf 40 = J_goto 11 := ftl_X0_indexOf_40
theorem ft_X0_indexOf_43 : F_X0_indexOf 43 = J_iconst (-9) 45 := ftl_X0_indexOf_43
theorem ft_X0_indexOf_45 : F_X0_indexOf 45 = J_ireturn 0 0 := ftl_X0_indexOf_45
theorem lp_X0_indexOf {Q : jQ} {C : Nat → Nat → Int32} {z : Nat → Int64} {nb s n : Nat} {o : Nat → Int32} {p : Int32} (hn : n ≤ 4) :
    ∀ k j, j + k = n → Q (some (.int (idxF o p k j))) (memS 94 (hrow C 7 o) z) → Rn Y_X0_indexOf none Q 11 [some (.ref 6), some (.ref s), some (.int p), some (.int (nI n)), some (.int (nI j))] [] (memS 94 (hrow C 7 o) z) (nb, 0, 0) := by
  intro k
  induction k with
  | zero =>
    intro j hj h
    have hc : (nI n ≤ nI j) = True := eq_true (nI_le (by omega) (by omega))
    refine jrun_first OK_X0_indexOf (C := [11]) 60 ?_
    simp -implicitDefEqProofs only [jr_0, jr_1, jr_2, j_iconst, j_lconst, j_iload0, j_aload0, j_istore0, j_astore0, j_iinc0, j_iload1, j_aload1, j_istore1, j_astore1, j_iinc1, j_iload2, j_aload2, j_istore2, j_astore2, j_iinc2, j_iload3, j_aload3, j_istore3, j_astore3, j_iinc3, j_iload4, j_aload4, j_istore4, j_astore4, j_iinc4, j_iload5, j_aload5, j_istore5, j_astore5, j_iinc5, j_iload6, j_aload6, j_istore6, j_astore6, j_iinc6, j_iload7, j_aload7, j_istore7, j_astore7, j_iinc7, j_iload8, j_aload8, j_istore8, j_astore8, j_iinc8, j_iadd, j_isub, j_imul, j_iand, j_ior, j_ixor, j_ishl, j_ishr, j_iushr, j_idiv, j_irem, j_ineg, j_ladd, j_lmul, j_land, j_lor, j_lcmp, j_lushr, j_lshl, j_i2l, j_l2i, j_dupI, j_dupR, j_popI, j_dup2, j_ifeq, j_iceq, j_ifne, j_icne, j_iflt, j_iclt, j_ifge, j_icge, j_ifgt, j_icgt, j_ifle, j_icle, j_goto, j_tsw, j_sw0, j_sw1, j_ireturn, j_zreturn, j_lreturn, j_return, j_getfield, j_putI, j_putJ, j_putR, j_iaload, j_baload, j_iastore, j_bastore, j_aaload, j_q, j_aastore, j_acopy, j_mmin, j_mmax, j_mabs, j_objinit, j_new, j_newI, j_newQ, j_sld, j_slen, j_callV0, j_callI0, j_callS0, j_callV1, j_callI1, j_callS1, j_callV2, j_callI2, j_callS2, j_callV3, j_callS3, j_callV4, j_callS4, j_callV5, j_callS5, j_pushS, j_pushN, j_sh0, j_sh1, j_sh2, j_sh3, j_sh4, Int32.reduceAdd, Int32.reduceMul, Int32.reduceSub, Int32.reduceLT, Int32.reduceLE, eq_self, i32_10, i32_01, ne_eq, hrow_s, hrow_n, ne10, ne100, ne1000, ne7, ne4, ne14, ne9973, or_true, true_or, or_false, false_or, not_true_eq_false, not_false_eq_true, false_implies, implies_true, and_true, forall_const, true_implies, jargs_n, jargs_r, jargs_i, List.cons_append, List.nil_append, true_and, Nat.reduceEqDiff, reduceIte, ft_X0_indexOf_0, ft_X0_indexOf_1, ft_X0_indexOf_2, ft_X0_indexOf_4, ft_X0_indexOf_7, ft_X0_indexOf_8, ft_X0_indexOf_9, ft_X0_indexOf_11, ft_X0_indexOf_13, ft_X0_indexOf_14, ft_X0_indexOf_17, ft_X0_indexOf_19, ft_X0_indexOf_20, ft_X0_indexOf_23, ft_X0_indexOf_24, ft_X0_indexOf_27, ft_X0_indexOf_29, ft_X0_indexOf_30, ft_X0_indexOf_31, ft_X0_indexOf_34, ft_X0_indexOf_36, ft_X0_indexOf_37, ft_X0_indexOf_40, ft_X0_indexOf_43, ft_X0_indexOf_45, hc]
    exact h
  | succ k ih =>
    intro j hj h
    have hc : (nI n ≤ nI j) = False := eq_false (nI_ge (by omega) (by omega))
    have hc4 : (4 ≤ nI j) = False := eq_false (nI_ge (b := 4) (by omega) (by decide))
    have v1 : vp_in (nI j) 4 := vp_in_nI (by omega) (by decide)
    unfold idxF at h
    refine jrun_first OK_X0_indexOf (C := [11]) 60 ?_
    simp -implicitDefEqProofs only [jr_0, jr_1, jr_2, j_iconst, j_lconst, j_iload0, j_aload0, j_istore0, j_astore0, j_iinc0, j_iload1, j_aload1, j_istore1, j_astore1, j_iinc1, j_iload2, j_aload2, j_istore2, j_astore2, j_iinc2, j_iload3, j_aload3, j_istore3, j_astore3, j_iinc3, j_iload4, j_aload4, j_istore4, j_astore4, j_iinc4, j_iload5, j_aload5, j_istore5, j_astore5, j_iinc5, j_iload6, j_aload6, j_istore6, j_astore6, j_iinc6, j_iload7, j_aload7, j_istore7, j_astore7, j_iinc7, j_iload8, j_aload8, j_istore8, j_astore8, j_iinc8, j_iadd, j_isub, j_imul, j_iand, j_ior, j_ixor, j_ishl, j_ishr, j_iushr, j_idiv, j_irem, j_ineg, j_ladd, j_lmul, j_land, j_lor, j_lcmp, j_lushr, j_lshl, j_i2l, j_l2i, j_dupI, j_dupR, j_popI, j_dup2, j_ifeq, j_iceq, j_ifne, j_icne, j_iflt, j_iclt, j_ifge, j_icge, j_ifgt, j_icgt, j_ifle, j_icle, j_goto, j_tsw, j_sw0, j_sw1, j_ireturn, j_zreturn, j_lreturn, j_return, j_getfield, j_putI, j_putJ, j_putR, j_iaload, j_baload, j_iastore, j_bastore, j_aaload, j_q, j_aastore, j_acopy, j_mmin, j_mmax, j_mabs, j_objinit, j_new, j_newI, j_newQ, j_sld, j_slen, j_callV0, j_callI0, j_callS0, j_callV1, j_callI1, j_callS1, j_callV2, j_callI2, j_callS2, j_callV3, j_callS3, j_callV4, j_callS4, j_callV5, j_callS5, j_pushS, j_pushN, j_sh0, j_sh1, j_sh2, j_sh3, j_sh4, Int32.reduceAdd, Int32.reduceMul, Int32.reduceSub, Int32.reduceLT, Int32.reduceLE, eq_self, i32_10, i32_01, ne_eq, hrow_s, hrow_n, ne10, ne100, ne1000, ne7, ne4, ne14, ne9973, or_true, true_or, or_false, false_or, not_true_eq_false, not_false_eq_true, false_implies, implies_true, and_true, forall_const, true_implies, jargs_n, jargs_r, jargs_i, List.cons_append, List.nil_append, true_and, Nat.reduceEqDiff, reduceIte, ft_X0_indexOf_0, ft_X0_indexOf_1, ft_X0_indexOf_2, ft_X0_indexOf_4, ft_X0_indexOf_7, ft_X0_indexOf_8, ft_X0_indexOf_9, ft_X0_indexOf_11, ft_X0_indexOf_13, ft_X0_indexOf_14, ft_X0_indexOf_17, ft_X0_indexOf_19, ft_X0_indexOf_20, ft_X0_indexOf_23, ft_X0_indexOf_24, ft_X0_indexOf_27, ft_X0_indexOf_29, ft_X0_indexOf_30, ft_X0_indexOf_31, ft_X0_indexOf_34, ft_X0_indexOf_36, ft_X0_indexOf_37, ft_X0_indexOf_40, ft_X0_indexOf_43, ft_X0_indexOf_45, hc, hc4, fl_6_1, al_7, v1, nI_1, nI_clamp (show j < 2 ^ 31 by omega)]
    by_cases h1 : o j = p
    · rw [if_pos h1] at h
      exact ⟨fun q => absurd h1 q, fun _ => h⟩
    · rw [if_neg h1] at h
      exact ⟨fun _ => ih (j + 1) (by omega) h, fun q => absurd q h1⟩
theorem ok_X0_indexOf : jMeets Y_X0_indexOf S_X0_indexOf := by
  intro nb vs mem Q h
  obtain ⟨C, z, s, p, rfl, rfl, hs, hQ⟩ := h
  refine Ok.run OK_X0_indexOf [11] 60 [none, none] pn0 (Nat.le_of_ble_eq_true rfl) rfl ?_
  simp -implicitDefEqProofs only [jr_0, jr_1, jr_2, j_iconst, j_lconst, j_iload0, j_aload0, j_istore0, j_astore0, j_iinc0, j_iload1, j_aload1, j_istore1, j_astore1, j_iinc1, j_iload2, j_aload2, j_istore2, j_astore2, j_iinc2, j_iload3, j_aload3, j_istore3, j_astore3, j_iinc3, j_iload4, j_aload4, j_istore4, j_astore4, j_iinc4, j_iload5, j_aload5, j_istore5, j_astore5, j_iinc5, j_iload6, j_aload6, j_istore6, j_astore6, j_iinc6, j_iload7, j_aload7, j_istore7, j_astore7, j_iinc7, j_iload8, j_aload8, j_istore8, j_astore8, j_iinc8, j_iadd, j_isub, j_imul, j_iand, j_ior, j_ixor, j_ishl, j_ishr, j_iushr, j_idiv, j_irem, j_ineg, j_ladd, j_lmul, j_land, j_lor, j_lcmp, j_lushr, j_lshl, j_i2l, j_l2i, j_dupI, j_dupR, j_popI, j_dup2, j_ifeq, j_iceq, j_ifne, j_icne, j_iflt, j_iclt, j_ifge, j_icge, j_ifgt, j_icgt, j_ifle, j_icle, j_goto, j_tsw, j_sw0, j_sw1, j_ireturn, j_zreturn, j_lreturn, j_return, j_getfield, j_putI, j_putJ, j_putR, j_iaload, j_baload, j_iastore, j_bastore, j_aaload, j_q, j_aastore, j_acopy, j_mmin, j_mmax, j_mabs, j_objinit, j_new, j_newI, j_newQ, j_sld, j_slen, j_callV0, j_callI0, j_callS0, j_callV1, j_callI1, j_callS1, j_callV2, j_callI2, j_callS2, j_callV3, j_callS3, j_callV4, j_callS4, j_callV5, j_callS5, j_pushS, j_pushN, j_sh0, j_sh1, j_sh2, j_sh3, j_sh4, Int32.reduceAdd, Int32.reduceMul, Int32.reduceSub, Int32.reduceLT, Int32.reduceLE, eq_self, i32_10, i32_01, ne_eq, hrow_s, hrow_n, ne10, ne100, ne1000, ne7, ne4, ne14, ne9973, or_true, true_or, or_false, false_or, not_true_eq_false, not_false_eq_true, false_implies, implies_true, and_true, forall_const, true_implies, jargs_n, jargs_r, jargs_i, List.cons_append, List.nil_append, true_and, Nat.reduceEqDiff, reduceIte, ft_X0_indexOf_0, ft_X0_indexOf_1, ft_X0_indexOf_2, ft_X0_indexOf_4, ft_X0_indexOf_7, ft_X0_indexOf_8, ft_X0_indexOf_9, ft_X0_indexOf_11, ft_X0_indexOf_13, ft_X0_indexOf_14, ft_X0_indexOf_17, ft_X0_indexOf_19, ft_X0_indexOf_20, ft_X0_indexOf_23, ft_X0_indexOf_24, ft_X0_indexOf_27, ft_X0_indexOf_29, ft_X0_indexOf_30, ft_X0_indexOf_31, ft_X0_indexOf_34, ft_X0_indexOf_36, ft_X0_indexOf_37, ft_X0_indexOf_40, ft_X0_indexOf_43, ft_X0_indexOf_45, rc_6]
  refine s_X0_arrange hs ?_
  simp -implicitDefEqProofs only [jr_0, jr_1, jr_2, j_iconst, j_lconst, j_iload0, j_aload0, j_istore0, j_astore0, j_iinc0, j_iload1, j_aload1, j_istore1, j_astore1, j_iinc1, j_iload2, j_aload2, j_istore2, j_astore2, j_iinc2, j_iload3, j_aload3, j_istore3, j_astore3, j_iinc3, j_iload4, j_aload4, j_istore4, j_astore4, j_iinc4, j_iload5, j_aload5, j_istore5, j_astore5, j_iinc5, j_iload6, j_aload6, j_istore6, j_astore6, j_iinc6, j_iload7, j_aload7, j_istore7, j_astore7, j_iinc7, j_iload8, j_aload8, j_istore8, j_astore8, j_iinc8, j_iadd, j_isub, j_imul, j_iand, j_ior, j_ixor, j_ishl, j_ishr, j_iushr, j_idiv, j_irem, j_ineg, j_ladd, j_lmul, j_land, j_lor, j_lcmp, j_lushr, j_lshl, j_i2l, j_l2i, j_dupI, j_dupR, j_popI, j_dup2, j_ifeq, j_iceq, j_ifne, j_icne, j_iflt, j_iclt, j_ifge, j_icge, j_ifgt, j_icgt, j_ifle, j_icle, j_goto, j_tsw, j_sw0, j_sw1, j_ireturn, j_zreturn, j_lreturn, j_return, j_getfield, j_putI, j_putJ, j_putR, j_iaload, j_baload, j_iastore, j_bastore, j_aaload, j_q, j_aastore, j_acopy, j_mmin, j_mmax, j_mabs, j_objinit, j_new, j_newI, j_newQ, j_sld, j_slen, j_callV0, j_callI0, j_callS0, j_callV1, j_callI1, j_callS1, j_callV2, j_callI2, j_callS2, j_callV3, j_callS3, j_callV4, j_callS4, j_callV5, j_callS5, j_pushS, j_pushN, j_sh0, j_sh1, j_sh2, j_sh3, j_sh4, Int32.reduceAdd, Int32.reduceMul, Int32.reduceSub, Int32.reduceLT, Int32.reduceLE, eq_self, i32_10, i32_01, ne_eq, hrow_s, hrow_n, ne10, ne100, ne1000, ne7, ne4, ne14, ne9973, or_true, true_or, or_false, false_or, not_true_eq_false, not_false_eq_true, false_implies, implies_true, and_true, forall_const, true_implies, jargs_n, jargs_r, jargs_i, List.cons_append, List.nil_append, true_and, Nat.reduceEqDiff, reduceIte, ft_X0_indexOf_0, ft_X0_indexOf_1, ft_X0_indexOf_2, ft_X0_indexOf_4, ft_X0_indexOf_7, ft_X0_indexOf_8, ft_X0_indexOf_9, ft_X0_indexOf_11, ft_X0_indexOf_13, ft_X0_indexOf_14, ft_X0_indexOf_17, ft_X0_indexOf_19, ft_X0_indexOf_20, ft_X0_indexOf_23, ft_X0_indexOf_24, ft_X0_indexOf_27, ft_X0_indexOf_29, ft_X0_indexOf_30, ft_X0_indexOf_31, ft_X0_indexOf_34, ft_X0_indexOf_36, ft_X0_indexOf_37, ft_X0_indexOf_40, ft_X0_indexOf_43, ft_X0_indexOf_45]
  exact lp_X0_indexOf (n := (mnO (C 5) 15 (C s) (C 7)).2) mnO_le (mnO (C 5) 15 (C s) (C 7)).2 0 (by omega) hQ
theorem s_X0_indexOf {nb s : Nat} {C : Nat → Nat → Int32} {z : Nat → Int64} {p : Int32} {Q : jQ} (hs : jSt s 94) (hQ : Q (some (.int (indexF C s p))) (memS 94 (hrow C 7 (mnO (C 5) 15 (C s) (C 7)).1) z)) : S_X0_indexOf nb [.ref 6, .ref s, .int p] (memS 94 C z) Q := ⟨C, z, s, p, rfl, rfl, hs, hQ⟩
def S_X0_property : jSp := fun _ vs mem Q => ∃ C z s, ∃ p w : Int32, vs = [.ref 6, .ref s, .int p, .int w] ∧ mem = memS 94 C z ∧ jSt s 94 ∧ pick (w = 9) (Q (some (.int (indexF C s p))) (memS 94 (hrow C 7 (mnO (C 5) 15 (C s) (C 7)).1) z)) (Q (some (.int (rget (C s) p w))) (memS 94 C z))
def F_X0_property_0 : Nat → jT := fun pc => (bif Nat.blt pc 9 then (bif Nat.blt pc 6 then (bif Nat.blt pc 1 then (bif Nat.beq pc 0 then J_iload 3 1 else jbad) else (bif Nat.blt pc 3 then (bif Nat.beq pc 1 then J_iconst 9 3 else jbad) else (bif Nat.beq pc 3 then J_icne 15 6 else jbad))) else (bif Nat.blt pc 7 then (bif Nat.beq pc 6 then J_aload 0 7 else jbad) else (bif Nat.blt pc 8 then (bif Nat.beq pc 7 then J_aload 1 8 else jbad) else (bif Nat.beq pc 8 then J_iload 2 9 else jbad)))) else (bif Nat.blt pc 16 then (bif Nat.blt pc 12 then (bif Nat.beq pc 9 then J_callV 0 S_X0_indexOf 2 12 else jbad) else (bif Nat.blt pc 15 then (bif Nat.beq pc 12 then J_goto 21 else jbad) else (bif Nat.beq pc 15 then J_aload 1 16 else jbad))) else (bif Nat.blt pc 18 then (bif Nat.blt pc 17 then (bif Nat.beq pc 16 then J_iload 2 17 else jbad) else (bif Nat.beq pc 17 then J_iload 3 18 else jbad)) else (bif Nat.blt pc 21 then (bif Nat.beq pc 18 then J_callV 4 S_X4_get 2 21 else jbad) else (bif Nat.beq pc 21 then J_ireturn 0 0 else jbad)))))
theorem ftl_X0_property_0 : F_X0_property_0 0 = J_iload 3 1 := rfl
theorem ftl_X0_property_1 : F_X0_property_0 1 = J_iconst 9 3 := rfl
theorem ftl_X0_property_3 : F_X0_property_0 3 = J_icne 15 6 := rfl
theorem ftl_X0_property_6 : F_X0_property_0 6 = J_aload 0 7 := rfl
theorem ftl_X0_property_7 : F_X0_property_0 7 = J_aload 1 8 := rfl
theorem ftl_X0_property_8 : F_X0_property_0 8 = J_iload 2 9 := rfl
theorem ftl_X0_property_9 : F_X0_property_0 9 = J_callV 0 S_X0_indexOf 2 12 := rfl
theorem ftl_X0_property_12 : F_X0_property_0 12 = J_goto 21 := rfl
theorem ftl_X0_property_15 : F_X0_property_0 15 = J_aload 1 16 := rfl
theorem ftl_X0_property_16 : F_X0_property_0 16 = J_iload 2 17 := rfl
theorem ftl_X0_property_17 : F_X0_property_0 17 = J_iload 3 18 := rfl
theorem ftl_X0_property_18 : F_X0_property_0 18 = J_callV 4 S_X4_get 2 21 := rfl
theorem ftl_X0_property_21 : F_X0_property_0 21 = J_ireturn 0 0 := rfl
theorem F_X0_property_0_ok : jOK Y_X0_property none (F_X0_property_0) := (jOK_node (jOK_node (jOK_node (jOK_leaf (sn_iload_n dX0_property_0 rfl rfl)) (jOK_node (jOK_leaf (sn_bipush dX0_property_1 rfl rfl)) (jOK_leaf (sn_icne dX0_property_3 rfl rfl)))) (jOK_node (jOK_leaf (sn_aload_n dX0_property_6 rfl rfl)) (jOK_node (jOK_leaf (sn_aload_n dX0_property_7 rfl rfl)) (jOK_leaf (sn_iload_n dX0_property_8 rfl rfl))))) (jOK_node (jOK_node (jOK_leaf (sn_callV (Y' := Y_X0_indexOf) ok_X0_indexOf dX0_property_9 rfl rfl rfl tw_298 tw_300 tp_5 tw_4 jc_X0_indexOf rfl ⟨by decide, by decide, rfl⟩ ⟨by decide, by decide⟩)) (jOK_node (jOK_leaf (sn_goto dX0_property_12 rfl)) (jOK_leaf (sn_aload_n dX0_property_15 rfl rfl)))) (jOK_node (jOK_node (jOK_leaf (sn_iload_n dX0_property_16 rfl rfl)) (jOK_leaf (sn_iload_n dX0_property_17 rfl rfl))) (jOK_node (jOK_leaf (sn_callV (Y' := Y_X4_get) ok_X4_get dX0_property_18 rfl rfl rfl tw_306 tw_267 tw_268 tw_5 jc_X4_get rfl ⟨by decide, by decide, rfl⟩ ⟨by decide, by decide⟩)) (jOK_leaf (sn_ireturn dX0_property_21 rfl rfl))))))
def F_X0_property : Nat → jT := F_X0_property_0
theorem OK_X0_property : jOK Y_X0_property none (F_X0_property) := F_X0_property_0_ok
theorem ft_X0_property_0 : F_X0_property 0 = J_iload 3 1 := ftl_X0_property_0
theorem ft_X0_property_1 : F_X0_property 1 = J_iconst 9 3 := ftl_X0_property_1
theorem ft_X0_property_3 : F_X0_property 3 = J_icne 15 6 := ftl_X0_property_3
theorem ft_X0_property_6 : F_X0_property 6 = J_aload 0 7 := ftl_X0_property_6
theorem ft_X0_property_7 : F_X0_property 7 = J_aload 1 8 := ftl_X0_property_7
theorem ft_X0_property_8 : F_X0_property 8 = J_iload 2 9 := ftl_X0_property_8
theorem ft_X0_property_9 : F_X0_property 9 = J_callV 0 S_X0_indexOf 2 12 := ftl_X0_property_9
theorem ft_X0_property_12 : F_X0_property 12 = J_goto 21 := ftl_X0_property_12
theorem ft_X0_property_15 : F_X0_property 15 = J_aload 1 16 := ftl_X0_property_15
theorem ft_X0_property_16 : F_X0_property 16 = J_iload 2 17 := ftl_X0_property_16
theorem ft_X0_property_17 : F_X0_property 17 = J_iload 3 18 := ftl_X0_property_17
theorem ft_X0_property_18 : F_X0_property 18 = J_callV 4 S_X4_get 2 21 := ftl_X0_property_18
theorem ft_X0_property_21 : F_X0_property 21 = J_ireturn 0 0 := ftl_X0_property_21
theorem ok_X0_property : jMeets Y_X0_property S_X0_property := by
  intro nb vs mem Q h
  obtain ⟨C, z, s, p, w, rfl, rfl, hs, hQ⟩ := h
  refine Ok.run OK_X0_property [] 60 [] pn0 (Nat.le_of_ble_eq_true rfl) rfl ?_
  simp -implicitDefEqProofs only [jr_0, jr_1, jr_2, j_iconst, j_lconst, j_iload0, j_aload0, j_istore0, j_astore0, j_iinc0, j_iload1, j_aload1, j_istore1, j_astore1, j_iinc1, j_iload2, j_aload2, j_istore2, j_astore2, j_iinc2, j_iload3, j_aload3, j_istore3, j_astore3, j_iinc3, j_iload4, j_aload4, j_istore4, j_astore4, j_iinc4, j_iload5, j_aload5, j_istore5, j_astore5, j_iinc5, j_iload6, j_aload6, j_istore6, j_astore6, j_iinc6, j_iload7, j_aload7, j_istore7, j_astore7, j_iinc7, j_iload8, j_aload8, j_istore8, j_astore8, j_iinc8, j_iadd, j_isub, j_imul, j_iand, j_ior, j_ixor, j_ishl, j_ishr, j_iushr, j_idiv, j_irem, j_ineg, j_ladd, j_lmul, j_land, j_lor, j_lcmp, j_lushr, j_lshl, j_i2l, j_l2i, j_dupI, j_dupR, j_popI, j_dup2, j_ifeq, j_iceq, j_ifne, j_icne, j_iflt, j_iclt, j_ifge, j_icge, j_ifgt, j_icgt, j_ifle, j_icle, j_goto, j_tsw, j_sw0, j_sw1, j_ireturn, j_zreturn, j_lreturn, j_return, j_getfield, j_putI, j_putJ, j_putR, j_iaload, j_baload, j_iastore, j_bastore, j_aaload, j_q, j_aastore, j_acopy, j_mmin, j_mmax, j_mabs, j_objinit, j_new, j_newI, j_newQ, j_sld, j_slen, j_callV0, j_callI0, j_callS0, j_callV1, j_callI1, j_callS1, j_callV2, j_callI2, j_callS2, j_callV3, j_callS3, j_callV4, j_callS4, j_callV5, j_callS5, j_pushS, j_pushN, j_sh0, j_sh1, j_sh2, j_sh3, j_sh4, Int32.reduceAdd, Int32.reduceMul, Int32.reduceSub, Int32.reduceLT, Int32.reduceLE, eq_self, i32_10, i32_01, ne_eq, hrow_s, hrow_n, ne10, ne100, ne1000, ne7, ne4, ne14, ne9973, or_true, true_or, or_false, false_or, not_true_eq_false, not_false_eq_true, false_implies, implies_true, and_true, forall_const, true_implies, jargs_n, jargs_r, jargs_i, List.cons_append, List.nil_append, true_and, Nat.reduceEqDiff, reduceIte, ft_X0_property_0, ft_X0_property_1, ft_X0_property_3, ft_X0_property_6, ft_X0_property_7, ft_X0_property_8, ft_X0_property_9, ft_X0_property_12, ft_X0_property_15, ft_X0_property_16, ft_X0_property_17, ft_X0_property_18, ft_X0_property_21, rc_6, jrcv_st hs, s_X4_get hs]
  by_cases h1 : w = 9
  · rw [pick_t h1] at hQ
    refine ⟨fun q => absurd h1 q, fun _ => s_X0_indexOf hs ?_⟩
    simp -implicitDefEqProofs only [jr_0, jr_1, jr_2, j_iconst, j_lconst, j_iload0, j_aload0, j_istore0, j_astore0, j_iinc0, j_iload1, j_aload1, j_istore1, j_astore1, j_iinc1, j_iload2, j_aload2, j_istore2, j_astore2, j_iinc2, j_iload3, j_aload3, j_istore3, j_astore3, j_iinc3, j_iload4, j_aload4, j_istore4, j_astore4, j_iinc4, j_iload5, j_aload5, j_istore5, j_astore5, j_iinc5, j_iload6, j_aload6, j_istore6, j_astore6, j_iinc6, j_iload7, j_aload7, j_istore7, j_astore7, j_iinc7, j_iload8, j_aload8, j_istore8, j_astore8, j_iinc8, j_iadd, j_isub, j_imul, j_iand, j_ior, j_ixor, j_ishl, j_ishr, j_iushr, j_idiv, j_irem, j_ineg, j_ladd, j_lmul, j_land, j_lor, j_lcmp, j_lushr, j_lshl, j_i2l, j_l2i, j_dupI, j_dupR, j_popI, j_dup2, j_ifeq, j_iceq, j_ifne, j_icne, j_iflt, j_iclt, j_ifge, j_icge, j_ifgt, j_icgt, j_ifle, j_icle, j_goto, j_tsw, j_sw0, j_sw1, j_ireturn, j_zreturn, j_lreturn, j_return, j_getfield, j_putI, j_putJ, j_putR, j_iaload, j_baload, j_iastore, j_bastore, j_aaload, j_q, j_aastore, j_acopy, j_mmin, j_mmax, j_mabs, j_objinit, j_new, j_newI, j_newQ, j_sld, j_slen, j_callV0, j_callI0, j_callS0, j_callV1, j_callI1, j_callS1, j_callV2, j_callI2, j_callS2, j_callV3, j_callS3, j_callV4, j_callS4, j_callV5, j_callS5, j_pushS, j_pushN, j_sh0, j_sh1, j_sh2, j_sh3, j_sh4, Int32.reduceAdd, Int32.reduceMul, Int32.reduceSub, Int32.reduceLT, Int32.reduceLE, eq_self, i32_10, i32_01, ne_eq, hrow_s, hrow_n, ne10, ne100, ne1000, ne7, ne4, ne14, ne9973, or_true, true_or, or_false, false_or, not_true_eq_false, not_false_eq_true, false_implies, implies_true, and_true, forall_const, true_implies, jargs_n, jargs_r, jargs_i, List.cons_append, List.nil_append, true_and, Nat.reduceEqDiff, reduceIte, ft_X0_property_0, ft_X0_property_1, ft_X0_property_3, ft_X0_property_6, ft_X0_property_7, ft_X0_property_8, ft_X0_property_9, ft_X0_property_12, ft_X0_property_15, ft_X0_property_16, ft_X0_property_17, ft_X0_property_18, ft_X0_property_21]
    exact hQ
  · rw [pick_f h1] at hQ
    exact ⟨fun _ => hQ, fun q => absurd q h1⟩
theorem s_X0_property {nb s : Nat} {C : Nat → Nat → Int32} {z : Nat → Int64} {p w : Int32} {Q : jQ} (hs : jSt s 94) (hQ : pick (w = 9) (Q (some (.int (indexF C s p))) (memS 94 (hrow C 7 (mnO (C 5) 15 (C s) (C 7)).1) z)) (Q (some (.int (rget (C s) p w))) (memS 94 C z))) : S_X0_property nb [.ref 6, .ref s, .int p, .int w] (memS 94 C z) Q := ⟨C, z, s, p, w, rfl, rfl, hs, hQ⟩
