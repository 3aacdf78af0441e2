/-! the class's State and Site: more reads -/
theorem eq_le {a : Nat} {b : Nat} {p : Prop} (h : Nat.ble a b = true) : (a ≤ b ∧ p) = p := eq_and (Nat.le_of_ble_eq_true h)
noncomputable def zb (c : Prop) : Int32 := @ite Int32 c (Classical.propDecidable c) 1 0
theorem zb_t {c : Prop} (h : c) : zb c = 1 := by unfold zb; rw [if_pos h]
theorem zb_f {c : Prop} (h : ¬ c) : zb c = 0 := by unfold zb; rw [if_neg h]
theorem zb_0 {c : Prop} : (zb c = 0) = ¬ c := by
  by_cases h : c
  · rw [zb_t h]; simp [h]
  · rw [zb_f h]; simp [h]
theorem zb_1 {c : Prop} : (zb c = 1) = c := by
  by_cases h : c
  · rw [zb_t h]; simp [h]
  · rw [zb_f h]; simp [h]
theorem zb_01 {c : Prop} : (zb c = 0 ∨ zb c = 1) = True := by
  by_cases h : c
  · rw [zb_t h]; simp
  · rw [zb_f h]; simp
/-- a choice by a proposition -/
noncomputable def pick {α : Sort _} (c : Prop) (a b : α) : α := @ite α c (Classical.propDecidable c) a b
theorem pick_t {α : Sort _} {c : Prop} {a b : α} (h : c) : pick c a b = a := by unfold pick; rw [if_pos h]
theorem pick_f {α : Sort _} {c : Prop} {a b : α} (h : ¬ c) : pick c a b = b := by unfold pick; rw [if_neg h]
def orF (c : Prop) [Decidable c] (x b : Int32) : Int32 := if c then x ||| b else x
theorem shl_0 : (1 : Int32) <<< ((0 : Int32) &&& 31) = 1 := by decide
theorem shl_1 : (1 : Int32) <<< ((1 : Int32) &&& 31) = 2 := by decide
theorem shl_2 : (1 : Int32) <<< ((2 : Int32) &&& 31) = 4 := by decide
theorem shl_3 : (1 : Int32) <<< ((3 : Int32) &&& 31) = 8 := by decide
def F_X3_hasPost_0 : Nat → jT := fun pc => (bif Nat.blt pc 9 then (bif Nat.blt pc 4 then (bif Nat.blt pc 1 then (bif Nat.beq pc 0 then J_iload 1 1 else jbad) else (bif Nat.beq pc 1 then J_iflt 16 4 else jbad)) else (bif Nat.blt pc 5 then (bif Nat.beq pc 4 then J_iload 1 5 else jbad) else (bif Nat.blt pc 6 then (bif Nat.beq pc 5 then J_aload 0 6 else jbad) else (bif Nat.beq pc 6 then J_getfield 3 2 9 else jbad)))) else (bif Nat.blt pc 13 then (bif Nat.blt pc 12 then (bif Nat.beq pc 9 then J_icge 16 12 else jbad) else (bif Nat.beq pc 12 then J_iconst 1 13 else jbad)) else (bif Nat.blt pc 16 then (bif Nat.beq pc 13 then J_goto 17 else jbad) else (bif Nat.blt pc 17 then (bif Nat.beq pc 16 then J_iconst 0 17 else jbad) else (bif Nat.beq pc 17 then J_zreturn 0 0 else jbad)))))
theorem ftl_X3_hasPost_0 : F_X3_hasPost_0 0 = J_iload 1 1 := rfl
theorem ftl_X3_hasPost_1 : F_X3_hasPost_0 1 = J_iflt 16 4 := rfl
theorem ftl_X3_hasPost_4 : F_X3_hasPost_0 4 = J_iload 1 5 := rfl
theorem ftl_X3_hasPost_5 : F_X3_hasPost_0 5 = J_aload 0 6 := rfl
theorem ftl_X3_hasPost_6 : F_X3_hasPost_0 6 = J_getfield 3 2 9 := rfl
theorem ftl_X3_hasPost_9 : F_X3_hasPost_0 9 = J_icge 16 12 := rfl
theorem ftl_X3_hasPost_12 : F_X3_hasPost_0 12 = J_iconst 1 13 := rfl
theorem ftl_X3_hasPost_13 : F_X3_hasPost_0 13 = J_goto 17 := rfl
theorem ftl_X3_hasPost_16 : F_X3_hasPost_0 16 = J_iconst 0 17 := rfl
theorem ftl_X3_hasPost_17 : F_X3_hasPost_0 17 = J_zreturn 0 0 := rfl
theorem F_X3_hasPost_0_ok : jOK Y_X3_hasPost none (F_X3_hasPost_0) := (jOK_node (jOK_node (jOK_node (jOK_leaf (sn_iload_n dX3_hasPost_0 rfl rfl)) (jOK_leaf (sn_iflt dX3_hasPost_1 rfl rfl))) (jOK_node (jOK_leaf (sn_iload_n dX3_hasPost_4 rfl rfl)) (jOK_node (jOK_leaf (sn_aload_n dX3_hasPost_5 rfl rfl)) (jOK_leaf (sn_getfield dX3_hasPost_6 rfl rfl (by decide) tw_44 jin3))))) (jOK_node (jOK_node (jOK_leaf (sn_icge dX3_hasPost_9 rfl rfl)) (jOK_leaf (sn_iconst dX3_hasPost_12 rfl rfl))) (jOK_node (jOK_leaf (sn_goto dX3_hasPost_13 rfl)) (jOK_node (jOK_leaf (sn_iconst dX3_hasPost_16 rfl rfl)) (jOK_leaf (sn_zreturn dX3_hasPost_17 rfl rfl))))))
def F_X3_hasPost : Nat → jT := F_X3_hasPost_0
theorem OK_X3_hasPost : jOK Y_X3_hasPost none (F_X3_hasPost) := F_X3_hasPost_0_ok
theorem ft_X3_hasPost_0 : F_X3_hasPost 0 = J_iload 1 1 := ftl_X3_hasPost_0
theorem ft_X3_hasPost_1 : F_X3_hasPost 1 = J_iflt 16 4 := ftl_X3_hasPost_1
theorem ft_X3_hasPost_4 : F_X3_hasPost 4 = J_iload 1 5 := ftl_X3_hasPost_4
theorem ft_X3_hasPost_5 : F_X3_hasPost 5 = J_aload 0 6 := ftl_X3_hasPost_5
theorem ft_X3_hasPost_6 : F_X3_hasPost 6 = J_getfield 3 2 9 := ftl_X3_hasPost_6
theorem ft_X3_hasPost_9 : F_X3_hasPost 9 = J_icge 16 12 := ftl_X3_hasPost_9
theorem ft_X3_hasPost_12 : F_X3_hasPost 12 = J_iconst 1 13 := ftl_X3_hasPost_12
theorem ft_X3_hasPost_13 : F_X3_hasPost 13 = J_goto 17 := ftl_X3_hasPost_13
theorem ft_X3_hasPost_16 : F_X3_hasPost 16 = J_iconst 0 17 := ftl_X3_hasPost_16
theorem ft_X3_hasPost_17 : F_X3_hasPost 17 = J_zreturn 0 0 := ftl_X3_hasPost_17
def S_X3_hasPost : jSp := fun nb vs mem Q => jcs vs ≤ 2 ∧ jrun F_X3_hasPost [] 40 Q (fun _ _ _ _ _ => False) 0 (jargs vs ++ []) [] mem (nb, 0, 0)
theorem ok_X3_hasPost : jMeets Y_X3_hasPost S_X3_hasPost := fun _ _ _ _ h => Ok.inl OK_X3_hasPost 40 [] pn3 rfl h
theorem s_X3_hasPost {nb d : Nat} {C : Nat → Nat → Int32} {z : Nat → Int64} {p : Int32} {Q : jQ} (h : jD d) : S_X3_hasPost nb [.ref 3, .int p] (memS d C z) Q = Q (some (.int (zb (0 ≤ p ∧ p < C 3 2)))) (memS d C z) := by
  refine (eq_le rfl).trans ?_
  simp -implicitDefEqProofs only [jr_0, jr_1, jr_2, j_iconst, j_lconst, j_iload0, j_aload0, j_istore0, j_astore0, j_iinc0, j_iload1, j_aload1, j_istore1, j_astore1, j_iinc1, j_iload2, j_aload2, j_istore2, j_astore2, j_iinc2, j_iload3, j_aload3, j_istore3, j_astore3, j_iinc3, j_iload4, j_aload4, j_istore4, j_astore4, j_iinc4, j_iload5, j_aload5, j_istore5, j_astore5, j_iinc5, j_iload6, j_aload6, j_istore6, j_astore6, j_iinc6, j_iload7, j_aload7, j_istore7, j_astore7, j_iinc7, j_iload8, j_aload8, j_istore8, j_astore8, j_iinc8, j_iadd, j_isub, j_imul, j_iand, j_ior, j_ixor, j_ishl, j_ishr, j_iushr, j_idiv, j_irem, j_ineg, j_ladd, j_lmul, j_land, j_lor, j_lcmp, j_lushr, j_lshl, j_i2l, j_l2i, j_dupI, j_dupR, j_popI, j_dup2, j_ifeq, j_iceq, j_ifne, j_icne, j_iflt, j_iclt, j_ifge, j_icge, j_ifgt, j_icgt, j_ifle, j_icle, j_goto, j_tsw, j_sw0, j_sw1, j_ireturn, j_zreturn, j_lreturn, j_return, j_getfield, j_putI, j_putJ, j_putR, j_iaload, j_baload, j_iastore, j_bastore, j_aaload, j_q, j_aastore, j_acopy, j_mmin, j_mmax, j_mabs, j_objinit, j_new, j_newI, j_newQ, j_sld, j_slen, j_callV0, j_callI0, j_callS0, j_callV1, j_callI1, j_callS1, j_callV2, j_callI2, j_callS2, j_callV3, j_callS3, j_callV4, j_callS4, j_callV5, j_callS5, j_pushS, j_pushN, j_sh0, j_sh1, j_sh2, j_sh3, j_sh4, Int32.reduceAdd, Int32.reduceMul, Int32.reduceSub, Int32.reduceLT, Int32.reduceLE, eq_self, i32_10, i32_01, ne_eq, hrow_s, hrow_n, ne10, ne100, ne1000, ne7, ne4, ne14, ne9973, or_true, true_or, or_false, false_or, not_true_eq_false, not_false_eq_true, false_implies, implies_true, and_true, forall_const, true_implies, jargs_n, jargs_r, jargs_i, List.cons_append, List.nil_append, true_and, Nat.reduceEqDiff, reduceIte, ft_X3_hasPost_0, ft_X3_hasPost_1, ft_X3_hasPost_4, ft_X3_hasPost_5, ft_X3_hasPost_6, ft_X3_hasPost_9, ft_X3_hasPost_12, ft_X3_hasPost_13, ft_X3_hasPost_16, ft_X3_hasPost_17, fl_3_2d h]
  grind [zb]
def F_X3_hasCar_0 : Nat → jT := fun pc => (bif Nat.blt pc 9 then (bif Nat.blt pc 4 then (bif Nat.blt pc 1 then (bif Nat.beq pc 0 then J_iload 1 1 else jbad) else (bif Nat.beq pc 1 then J_iflt 16 4 else jbad)) else (bif Nat.blt pc 5 then (bif Nat.beq pc 4 then J_iload 1 5 else jbad) else (bif Nat.blt pc 6 then (bif Nat.beq pc 5 then J_aload 0 6 else jbad) else (bif Nat.beq pc 6 then J_getfield 3 3 9 else jbad)))) else (bif Nat.blt pc 13 then (bif Nat.blt pc 12 then (bif Nat.beq pc 9 then J_icge 16 12 else jbad) else (bif Nat.beq pc 12 then J_iconst 1 13 else jbad)) else (bif Nat.blt pc 16 then (bif Nat.beq pc 13 then J_goto 17 else jbad) else (bif Nat.blt pc 17 then (bif Nat.beq pc 16 then J_iconst 0 17 else jbad) else (bif Nat.beq pc 17 then J_zreturn 0 0 else jbad)))))
theorem ftl_X3_hasCar_0 : F_X3_hasCar_0 0 = J_iload 1 1 := rfl
theorem ftl_X3_hasCar_1 : F_X3_hasCar_0 1 = J_iflt 16 4 := rfl
theorem ftl_X3_hasCar_4 : F_X3_hasCar_0 4 = J_iload 1 5 := rfl
theorem ftl_X3_hasCar_5 : F_X3_hasCar_0 5 = J_aload 0 6 := rfl
theorem ftl_X3_hasCar_6 : F_X3_hasCar_0 6 = J_getfield 3 3 9 := rfl
theorem ftl_X3_hasCar_9 : F_X3_hasCar_0 9 = J_icge 16 12 := rfl
theorem ftl_X3_hasCar_12 : F_X3_hasCar_0 12 = J_iconst 1 13 := rfl
theorem ftl_X3_hasCar_13 : F_X3_hasCar_0 13 = J_goto 17 := rfl
theorem ftl_X3_hasCar_16 : F_X3_hasCar_0 16 = J_iconst 0 17 := rfl
theorem ftl_X3_hasCar_17 : F_X3_hasCar_0 17 = J_zreturn 0 0 := rfl
theorem F_X3_hasCar_0_ok : jOK Y_X3_hasCar none (F_X3_hasCar_0) := (jOK_node (jOK_node (jOK_node (jOK_leaf (sn_iload_n dX3_hasCar_0 rfl rfl)) (jOK_leaf (sn_iflt dX3_hasCar_1 rfl rfl))) (jOK_node (jOK_leaf (sn_iload_n dX3_hasCar_4 rfl rfl)) (jOK_node (jOK_leaf (sn_aload_n dX3_hasCar_5 rfl rfl)) (jOK_leaf (sn_getfield dX3_hasCar_6 rfl rfl (by decide) tw_47 jin3))))) (jOK_node (jOK_node (jOK_leaf (sn_icge dX3_hasCar_9 rfl rfl)) (jOK_leaf (sn_iconst dX3_hasCar_12 rfl rfl))) (jOK_node (jOK_leaf (sn_goto dX3_hasCar_13 rfl)) (jOK_node (jOK_leaf (sn_iconst dX3_hasCar_16 rfl rfl)) (jOK_leaf (sn_zreturn dX3_hasCar_17 rfl rfl))))))
def F_X3_hasCar : Nat → jT := F_X3_hasCar_0
theorem OK_X3_hasCar : jOK Y_X3_hasCar none (F_X3_hasCar) := F_X3_hasCar_0_ok
theorem ft_X3_hasCar_0 : F_X3_hasCar 0 = J_iload 1 1 := ftl_X3_hasCar_0
theorem ft_X3_hasCar_1 : F_X3_hasCar 1 = J_iflt 16 4 := ftl_X3_hasCar_1
theorem ft_X3_hasCar_4 : F_X3_hasCar 4 = J_iload 1 5 := ftl_X3_hasCar_4
theorem ft_X3_hasCar_5 : F_X3_hasCar 5 = J_aload 0 6 := ftl_X3_hasCar_5
theorem ft_X3_hasCar_6 : F_X3_hasCar 6 = J_getfield 3 3 9 := ftl_X3_hasCar_6
theorem ft_X3_hasCar_9 : F_X3_hasCar 9 = J_icge 16 12 := ftl_X3_hasCar_9
theorem ft_X3_hasCar_12 : F_X3_hasCar 12 = J_iconst 1 13 := ftl_X3_hasCar_12
theorem ft_X3_hasCar_13 : F_X3_hasCar 13 = J_goto 17 := ftl_X3_hasCar_13
theorem ft_X3_hasCar_16 : F_X3_hasCar 16 = J_iconst 0 17 := ftl_X3_hasCar_16
theorem ft_X3_hasCar_17 : F_X3_hasCar 17 = J_zreturn 0 0 := ftl_X3_hasCar_17
def S_X3_hasCar : jSp := fun nb vs mem Q => jcs vs ≤ 2 ∧ jrun F_X3_hasCar [] 40 Q (fun _ _ _ _ _ => False) 0 (jargs vs ++ []) [] mem (nb, 0, 0)
theorem ok_X3_hasCar : jMeets Y_X3_hasCar S_X3_hasCar := fun _ _ _ _ h => Ok.inl OK_X3_hasCar 40 [] pn3 rfl h
theorem s_X3_hasCar {nb d : Nat} {C : Nat → Nat → Int32} {z : Nat → Int64} {p : Int32} {Q : jQ} (h : jD d) : S_X3_hasCar nb [.ref 3, .int p] (memS d C z) Q = Q (some (.int (zb (0 ≤ p ∧ p < C 3 3)))) (memS d C z) := by
  refine (eq_le rfl).trans ?_
  simp -implicitDefEqProofs only [jr_0, jr_1, jr_2, j_iconst, j_lconst, j_iload0, j_aload0, j_istore0, j_astore0, j_iinc0, j_iload1, j_aload1, j_istore1, j_astore1, j_iinc1, j_iload2, j_aload2, j_istore2, j_astore2, j_iinc2, j_iload3, j_aload3, j_istore3, j_astore3, j_iinc3, j_iload4, j_aload4, j_istore4, j_astore4, j_iinc4, j_iload5, j_aload5, j_istore5, j_astore5, j_iinc5, j_iload6, j_aload6, j_istore6, j_astore6, j_iinc6, j_iload7, j_aload7, j_istore7, j_astore7, j_iinc7, j_iload8, j_aload8, j_istore8, j_astore8, j_iinc8, j_iadd, j_isub, j_imul, j_iand, j_ior, j_ixor, j_ishl, j_ishr, j_iushr, j_idiv, j_irem, j_ineg, j_ladd, j_lmul, j_land, j_lor, j_lcmp, j_lushr, j_lshl, j_i2l, j_l2i, j_dupI, j_dupR, j_popI, j_dup2, j_ifeq, j_iceq, j_ifne, j_icne, j_iflt, j_iclt, j_ifge, j_icge, j_ifgt, j_icgt, j_ifle, j_icle, j_goto, j_tsw, j_sw0, j_sw1, j_ireturn, j_zreturn, j_lreturn, j_return, j_getfield, j_putI, j_putJ, j_putR, j_iaload, j_baload, j_iastore, j_bastore, j_aaload, j_q, j_aastore, j_acopy, j_mmin, j_mmax, j_mabs, j_objinit, j_new, j_newI, j_newQ, j_sld, j_slen, j_callV0, j_callI0, j_callS0, j_callV1, j_callI1, j_callS1, j_callV2, j_callI2, j_callS2, j_callV3, j_callS3, j_callV4, j_callS4, j_callV5, j_callS5, j_pushS, j_pushN, j_sh0, j_sh1, j_sh2, j_sh3, j_sh4, Int32.reduceAdd, Int32.reduceMul, Int32.reduceSub, Int32.reduceLT, Int32.reduceLE, eq_self, i32_10, i32_01, ne_eq, hrow_s, hrow_n, ne10, ne100, ne1000, ne7, ne4, ne14, ne9973, or_true, true_or, or_false, false_or, not_true_eq_false, not_false_eq_true, false_implies, implies_true, and_true, forall_const, true_implies, jargs_n, jargs_r, jargs_i, List.cons_append, List.nil_append, true_and, Nat.reduceEqDiff, reduceIte, ft_X3_hasCar_0, ft_X3_hasCar_1, ft_X3_hasCar_4, ft_X3_hasCar_5, ft_X3_hasCar_6, ft_X3_hasCar_9, ft_X3_hasCar_12, ft_X3_hasCar_13, ft_X3_hasCar_16, ft_X3_hasCar_17, fl_3_3d h]
  grind [zb]
def ampsF (f : Nat → Int32) (p : Int32) : Int32 := if p < 0 ∨ 4 ≤ p then 0 else f p.toNatClampNeg
theorem vp_in4 {p : Int32} (h0 : ¬ p < 0) (h1 : p < 4) : vp_in p 4 := by
  obtain ⟨j, hj, rfl⟩ := i32_4 h0 (Int32.not_le.mpr h1)
  exact vp_in_nI hj (by decide)
def F_X3_ampsOf_0 : Nat → jT := fun pc => (bif Nat.blt pc 10 then (bif Nat.blt pc 5 then (bif Nat.blt pc 1 then (bif Nat.beq pc 0 then J_iload 1 1 else jbad) else (bif Nat.blt pc 4 then (bif Nat.beq pc 1 then J_iflt 9 4 else jbad) else (bif Nat.beq pc 4 then J_iload 1 5 else jbad))) else (bif Nat.blt pc 6 then (bif Nat.beq pc 5 then J_iconst 4 6 else jbad) else (bif Nat.blt pc 9 then (bif Nat.beq pc 6 then J_iclt 13 9 else jbad) else (bif Nat.beq pc 9 then J_iconst 0 10 else jbad)))) else (bif Nat.blt pc 17 then (bif Nat.blt pc 13 then (bif Nat.beq pc 10 then J_goto 19 else jbad) else (bif Nat.blt pc 14 then (bif Nat.beq pc 13 then J_aload 0 14 else jbad) else (bif Nat.beq pc 14 then J_getfield 3 0 17 else jbad))) else (bif Nat.blt pc 18 then (bif Nat.beq pc 17 then J_iload 1 18 else jbad) else (bif Nat.blt pc 19 then (bif Nat.beq pc 18 then J_iaload 19 else jbad) else (bif Nat.beq pc 19 then J_ireturn 0 0 else jbad)))))
theorem ftl_X3_ampsOf_0 : F_X3_ampsOf_0 0 = J_iload 1 1 := rfl
theorem ftl_X3_ampsOf_1 : F_X3_ampsOf_0 1 = J_iflt 9 4 := rfl
theorem ftl_X3_ampsOf_4 : F_X3_ampsOf_0 4 = J_iload 1 5 := rfl
theorem ftl_X3_ampsOf_5 : F_X3_ampsOf_0 5 = J_iconst 4 6 := rfl
theorem ftl_X3_ampsOf_6 : F_X3_ampsOf_0 6 = J_iclt 13 9 := rfl
theorem ftl_X3_ampsOf_9 : F_X3_ampsOf_0 9 = J_iconst 0 10 := rfl
theorem ftl_X3_ampsOf_10 : F_X3_ampsOf_0 10 = J_goto 19 := rfl
theorem ftl_X3_ampsOf_13 : F_X3_ampsOf_0 13 = J_aload 0 14 := rfl
theorem ftl_X3_ampsOf_14 : F_X3_ampsOf_0 14 = J_getfield 3 0 17 := rfl
theorem ftl_X3_ampsOf_17 : F_X3_ampsOf_0 17 = J_iload 1 18 := rfl
theorem ftl_X3_ampsOf_18 : F_X3_ampsOf_0 18 = J_iaload 19 := rfl
theorem ftl_X3_ampsOf_19 : F_X3_ampsOf_0 19 = J_ireturn 0 0 := rfl
theorem F_X3_ampsOf_0_ok : jOK Y_X3_ampsOf none (F_X3_ampsOf_0) := (jOK_node (jOK_node (jOK_node (jOK_leaf (sn_iload_n dX3_ampsOf_0 rfl rfl)) (jOK_node (jOK_leaf (sn_iflt dX3_ampsOf_1 rfl rfl)) (jOK_leaf (sn_iload_n dX3_ampsOf_4 rfl rfl)))) (jOK_node (jOK_leaf (sn_iconst dX3_ampsOf_5 rfl rfl)) (jOK_node (jOK_leaf (sn_iclt dX3_ampsOf_6 rfl rfl)) (jOK_leaf (sn_iconst dX3_ampsOf_9 rfl rfl))))) (jOK_node (jOK_node (jOK_leaf (sn_goto dX3_ampsOf_10 rfl)) (jOK_node (jOK_leaf (sn_aload_n dX3_ampsOf_13 rfl rfl)) (jOK_leaf (sn_getfield dX3_ampsOf_14 rfl rfl (by decide) tw_42 jin3)))) (jOK_node (jOK_leaf (sn_iload_n dX3_ampsOf_17 rfl rfl)) (jOK_node (jOK_leaf (sn_iaload dX3_ampsOf_18 rfl)) (jOK_leaf (sn_ireturn dX3_ampsOf_19 rfl rfl))))))
def F_X3_ampsOf : Nat → jT := F_X3_ampsOf_0
theorem OK_X3_ampsOf : jOK Y_X3_ampsOf none (F_X3_ampsOf) := F_X3_ampsOf_0_ok
theorem ft_X3_ampsOf_0 : F_X3_ampsOf 0 = J_iload 1 1 := ftl_X3_ampsOf_0
theorem ft_X3_ampsOf_1 : F_X3_ampsOf 1 = J_iflt 9 4 := ftl_X3_ampsOf_1
theorem ft_X3_ampsOf_4 : F_X3_ampsOf 4 = J_iload 1 5 := ftl_X3_ampsOf_4
theorem ft_X3_ampsOf_5 : F_X3_ampsOf 5 = J_iconst 4 6 := ftl_X3_ampsOf_5
theorem ft_X3_ampsOf_6 : F_X3_ampsOf 6 = J_iclt 13 9 := ftl_X3_ampsOf_6
theorem ft_X3_ampsOf_9 : F_X3_ampsOf 9 = J_iconst 0 10 := ftl_X3_ampsOf_9
theorem ft_X3_ampsOf_10 : F_X3_ampsOf 10 = J_goto 19 := ftl_X3_ampsOf_10
theorem ft_X3_ampsOf_13 : F_X3_ampsOf 13 = J_aload 0 14 := ftl_X3_ampsOf_13
theorem ft_X3_ampsOf_14 : F_X3_ampsOf 14 = J_getfield 3 0 17 := ftl_X3_ampsOf_14
theorem ft_X3_ampsOf_17 : F_X3_ampsOf 17 = J_iload 1 18 := ftl_X3_ampsOf_17
theorem ft_X3_ampsOf_18 : F_X3_ampsOf 18 = J_iaload 19 := ftl_X3_ampsOf_18
theorem ft_X3_ampsOf_19 : F_X3_ampsOf 19 = J_ireturn 0 0 := ftl_X3_ampsOf_19
def S_X3_ampsOf : jSp := fun nb vs mem Q => jcs vs ≤ 2 ∧ jrun F_X3_ampsOf [] 40 Q (fun _ _ _ _ _ => False) 0 (jargs vs ++ []) [] mem (nb, 0, 0)
theorem ok_X3_ampsOf : jMeets Y_X3_ampsOf S_X3_ampsOf := fun _ _ _ _ h => Ok.inl OK_X3_ampsOf 40 [] pn3 rfl h
theorem s_X3_ampsOf {nb d : Nat} {C : Nat → Nat → Int32} {z : Nat → Int64} {p : Int32} {Q : jQ} (h : jD d) : S_X3_ampsOf nb [.ref 3, .int p] (memS d C z) Q = Q (some (.int (ampsF (C 4) p))) (memS d C z) := by
  refine (eq_le rfl).trans ?_
  simp -implicitDefEqProofs only [jr_0, jr_1, jr_2, j_iconst, j_lconst, j_iload0, j_aload0, j_istore0, j_astore0, j_iinc0, j_iload1, j_aload1, j_istore1, j_astore1, j_iinc1, j_iload2, j_aload2, j_istore2, j_astore2, j_iinc2, j_iload3, j_aload3, j_istore3, j_astore3, j_iinc3, j_iload4, j_aload4, j_istore4, j_astore4, j_iinc4, j_iload5, j_aload5, j_istore5, j_astore5, j_iinc5, j_iload6, j_aload6, j_istore6, j_astore6, j_iinc6, j_iload7, j_aload7, j_istore7, j_astore7, j_iinc7, j_iload8, j_aload8, j_istore8, j_astore8, j_iinc8, j_iadd, j_isub, j_imul, j_iand, j_ior, j_ixor, j_ishl, j_ishr, j_iushr, j_idiv, j_irem, j_ineg, j_ladd, j_lmul, j_land, j_lor, j_lcmp, j_lushr, j_lshl, j_i2l, j_l2i, j_dupI, j_dupR, j_popI, j_dup2, j_ifeq, j_iceq, j_ifne, j_icne, j_iflt, j_iclt, j_ifge, j_icge, j_ifgt, j_icgt, j_ifle, j_icle, j_goto, j_tsw, j_sw0, j_sw1, j_ireturn, j_zreturn, j_lreturn, j_return, j_getfield, j_putI, j_putJ, j_putR, j_iaload, j_baload, j_iastore, j_bastore, j_aaload, j_q, j_aastore, j_acopy, j_mmin, j_mmax, j_mabs, j_objinit, j_new, j_newI, j_newQ, j_sld, j_slen, j_callV0, j_callI0, j_callS0, j_callV1, j_callI1, j_callS1, j_callV2, j_callI2, j_callS2, j_callV3, j_callS3, j_callV4, j_callS4, j_callV5, j_callS5, j_pushS, j_pushN, j_sh0, j_sh1, j_sh2, j_sh3, j_sh4, Int32.reduceAdd, Int32.reduceMul, Int32.reduceSub, Int32.reduceLT, Int32.reduceLE, eq_self, i32_10, i32_01, ne_eq, hrow_s, hrow_n, ne10, ne100, ne1000, ne7, ne4, ne14, ne9973, or_true, true_or, or_false, false_or, not_true_eq_false, not_false_eq_true, false_implies, implies_true, and_true, forall_const, true_implies, jargs_n, jargs_r, jargs_i, List.cons_append, List.nil_append, true_and, Nat.reduceEqDiff, reduceIte, ft_X3_ampsOf_0, ft_X3_ampsOf_1, ft_X3_ampsOf_4, ft_X3_ampsOf_5, ft_X3_ampsOf_6, ft_X3_ampsOf_9, ft_X3_ampsOf_10, ft_X3_ampsOf_13, ft_X3_ampsOf_14, ft_X3_ampsOf_17, ft_X3_ampsOf_18, ft_X3_ampsOf_19, fl_3_0d h, al_4d h]
  have := @vp_in4 p
  grind [ampsF]
def traitF (f : Nat → Int32) (c w : Int32) : Int32 := if c < 0 ∨ 6 ≤ c ∨ w < 0 ∨ 4 ≤ w then 0 else f (c * 4 + w).toNatClampNeg
theorem trait_ix {c w : Nat} (hc : c < 6) (hw : w < 4) : nI c * 4 + nI w = nI (4 * c + w) := by
  have : ∀ c, c < 6 → ∀ w, w < 4 → nI c * 4 + nI w = nI (4 * c + w) := by decide +kernel
  exact this c hc w hw
theorem trait_in {c w : Int32} (h0 : ¬ c < 0) (h1 : ¬ 6 ≤ c) (h2 : ¬ w < 0) (h3 : w < 4) : vp_in (c * 4 + w) 24 := by
  obtain ⟨j, hj, rfl⟩ := i32_6 h0 h1
  obtain ⟨k, hk, rfl⟩ := i32_4 h2 (Int32.not_le.mpr h3)
  rw [trait_ix hj hk]
  exact vp_in_nI (by omega) (by decide)
theorem traitF_at {f : Nat → Int32} {c w : Nat} (hc : c < 6) (hw : w < 4) : traitF f (nI c) (nI w) = f (4 * c + w) := by
  unfold traitF
  rw [if_neg (by rintro (q | q | q | q); exact nI_pos (by omega) q; exact nI_ge hc (by decide) q; exact nI_pos (by omega) q; exact nI_ge hw (by decide) q), trait_ix hc hw, nI_clamp (by omega)]
def F_X3_trait_0 : Nat → jT := fun pc => (bif Nat.blt pc 10 then (bif Nat.blt pc 4 then (bif Nat.blt pc 1 then (bif Nat.beq pc 0 then J_iload 1 1 else jbad) else (bif Nat.beq pc 1 then J_iflt 19 4 else jbad)) else (bif Nat.blt pc 5 then (bif Nat.beq pc 4 then J_iload 1 5 else jbad) else (bif Nat.blt pc 7 then (bif Nat.beq pc 5 then J_iconst 6 7 else jbad) else (bif Nat.beq pc 7 then J_icge 19 10 else jbad)))) else (bif Nat.blt pc 14 then (bif Nat.blt pc 11 then (bif Nat.beq pc 10 then J_iload 2 11 else jbad) else (bif Nat.beq pc 11 then J_iflt 19 14 else jbad)) else (bif Nat.blt pc 15 then (bif Nat.beq pc 14 then J_iload 2 15 else jbad) else (bif Nat.blt pc 16 then (bif Nat.beq pc 15 then J_iconst 4 16 else jbad) else (bif Nat.beq pc 16 then J_iclt 21 19 else jbad)))))
theorem ftl_X3_trait_0 : F_X3_trait_0 0 = J_iload 1 1 := rfl
theorem ftl_X3_trait_1 : F_X3_trait_0 1 = J_iflt 19 4 := rfl
theorem ftl_X3_trait_4 : F_X3_trait_0 4 = J_iload 1 5 := rfl
theorem ftl_X3_trait_5 : F_X3_trait_0 5 = J_iconst 6 7 := rfl
theorem ftl_X3_trait_7 : F_X3_trait_0 7 = J_icge 19 10 := rfl
theorem ftl_X3_trait_10 : F_X3_trait_0 10 = J_iload 2 11 := rfl
theorem ftl_X3_trait_11 : F_X3_trait_0 11 = J_iflt 19 14 := rfl
theorem ftl_X3_trait_14 : F_X3_trait_0 14 = J_iload 2 15 := rfl
theorem ftl_X3_trait_15 : F_X3_trait_0 15 = J_iconst 4 16 := rfl
theorem ftl_X3_trait_16 : F_X3_trait_0 16 = J_iclt 21 19 := rfl
theorem F_X3_trait_0_ok : jOK Y_X3_trait none (F_X3_trait_0) := (jOK_node (jOK_node (jOK_node (jOK_leaf (sn_iload_n dX3_trait_0 rfl rfl)) (jOK_leaf (sn_iflt dX3_trait_1 rfl rfl))) (jOK_node (jOK_leaf (sn_iload_n dX3_trait_4 rfl rfl)) (jOK_node (jOK_leaf (sn_bipush dX3_trait_5 rfl rfl)) (jOK_leaf (sn_icge dX3_trait_7 rfl rfl))))) (jOK_node (jOK_node (jOK_leaf (sn_iload_n dX3_trait_10 rfl rfl)) (jOK_leaf (sn_iflt dX3_trait_11 rfl rfl))) (jOK_node (jOK_leaf (sn_iload_n dX3_trait_14 rfl rfl)) (jOK_node (jOK_leaf (sn_iconst dX3_trait_15 rfl rfl)) (jOK_leaf (sn_iclt dX3_trait_16 rfl rfl))))))
def F_X3_trait_19 : Nat → jT := fun pc => (bif Nat.blt pc 26 then (bif Nat.blt pc 21 then (bif Nat.blt pc 20 then (bif Nat.beq pc 19 then J_iconst 0 20 else jbad) else (bif Nat.beq pc 20 then J_ireturn 0 0 else jbad)) else (bif Nat.blt pc 22 then (bif Nat.beq pc 21 then J_aload 0 22 else jbad) else (bif Nat.blt pc 25 then (bif Nat.beq pc 22 then J_getfield 3 1 25 else jbad) else (bif Nat.beq pc 25 then J_iload 1 26 else jbad)))) else (bif Nat.blt pc 29 then (bif Nat.blt pc 27 then (bif Nat.beq pc 26 then J_iconst 4 27 else jbad) else (bif Nat.blt pc 28 then (bif Nat.beq pc 27 then J_imul 28 else jbad) else (bif Nat.beq pc 28 then J_iload 2 29 else jbad))) else (bif Nat.blt pc 30 then (bif Nat.beq pc 29 then J_iadd 30 else jbad) else (bif Nat.blt pc 31 then (bif Nat.beq pc 30 then J_iaload 31 else jbad) else (bif Nat.beq pc 31 then J_ireturn 0 0 else jbad)))))
theorem ftl_X3_trait_19 : F_X3_trait_19 19 = J_iconst 0 20 := rfl
theorem ftl_X3_trait_20 : F_X3_trait_19 20 = J_ireturn 0 0 := rfl
theorem ftl_X3_trait_21 : F_X3_trait_19 21 = J_aload 0 22 := rfl
theorem ftl_X3_trait_22 : F_X3_trait_19 22 = J_getfield 3 1 25 := rfl
theorem ftl_X3_trait_25 : F_X3_trait_19 25 = J_iload 1 26 := rfl
theorem ftl_X3_trait_26 : F_X3_trait_19 26 = J_iconst 4 27 := rfl
theorem ftl_X3_trait_27 : F_X3_trait_19 27 = J_imul 28 := rfl
theorem ftl_X3_trait_28 : F_X3_trait_19 28 = J_iload 2 29 := rfl
theorem ftl_X3_trait_29 : F_X3_trait_19 29 = J_iadd 30 := rfl
theorem ftl_X3_trait_30 : F_X3_trait_19 30 = J_iaload 31 := rfl
theorem ftl_X3_trait_31 : F_X3_trait_19 31 = J_ireturn 0 0 := rfl
theorem F_X3_trait_19_ok : jOK Y_X3_trait none (F_X3_trait_19) := (jOK_node (jOK_node (jOK_node (jOK_leaf (sn_iconst dX3_trait_19 rfl rfl)) (jOK_leaf (sn_ireturn dX3_trait_20 rfl rfl))) (jOK_node (jOK_leaf (sn_aload_n dX3_trait_21 rfl rfl)) (jOK_node (jOK_leaf (sn_getfield dX3_trait_22 rfl rfl (by decide) tw_43 jin3)) (jOK_leaf (sn_iload_n dX3_trait_25 rfl rfl))))) (jOK_node (jOK_node (jOK_leaf (sn_iconst dX3_trait_26 rfl rfl)) (jOK_node (jOK_leaf (sn_imul dX3_trait_27 rfl)) (jOK_leaf (sn_iload_n dX3_trait_28 rfl rfl)))) (jOK_node (jOK_leaf (sn_iadd dX3_trait_29 rfl)) (jOK_node (jOK_leaf (sn_iaload dX3_trait_30 rfl)) (jOK_leaf (sn_ireturn dX3_trait_31 rfl rfl))))))
def F_X3_trait_0_31 : Nat → jT := fun pc => bif Nat.blt pc 19 then F_X3_trait_0 pc else F_X3_trait_19 pc
theorem F_X3_trait_0_31_ok : jOK Y_X3_trait none (F_X3_trait_0_31) := jOK_node (F_X3_trait_0_ok) (F_X3_trait_19_ok)
def F_X3_trait : Nat → jT := F_X3_trait_0_31
theorem OK_X3_trait : jOK Y_X3_trait none (F_X3_trait) := F_X3_trait_0_31_ok
theorem ft_X3_trait_0 : F_X3_trait 0 = J_iload 1 1 := ftl_X3_trait_0
theorem ft_X3_trait_1 : F_X3_trait 1 = J_iflt 19 4 := ftl_X3_trait_1
theorem ft_X3_trait_4 : F_X3_trait 4 = J_iload 1 5 := ftl_X3_trait_4
theorem ft_X3_trait_5 : F_X3_trait 5 = J_iconst 6 7 := ftl_X3_trait_5
theorem ft_X3_trait_7 : F_X3_trait 7 = J_icge 19 10 := ftl_X3_trait_7
theorem ft_X3_trait_10 : F_X3_trait 10 = J_iload 2 11 := ftl_X3_trait_10
theorem ft_X3_trait_11 : F_X3_trait 11 = J_iflt 19 14 := ftl_X3_trait_11
theorem ft_X3_trait_14 : F_X3_trait 14 = J_iload 2 15 := ftl_X3_trait_14
theorem ft_X3_trait_15 : F_X3_trait 15 = J_iconst 4 16 := ftl_X3_trait_15
theorem ft_X3_trait_16 : F_X3_trait 16 = J_iclt 21 19 := ftl_X3_trait_16
theorem ft_X3_trait_19 : F_X3_trait 19 = J_iconst 0 20 := ftl_X3_trait_19
theorem ft_X3_trait_20 : F_X3_trait 20 = J_ireturn 0 0 := ftl_X3_trait_20
theorem ft_X3_trait_21 : F_X3_trait 21 = J_aload 0 22 := ftl_X3_trait_21
theorem ft_X3_trait_22 : F_X3_trait 22 = J_getfield 3 1 25 := ftl_X3_trait_22
theorem ft_X3_trait_25 : F_X3_trait 25 = J_iload 1 26 := ftl_X3_trait_25
theorem ft_X3_trait_26 : F_X3_trait 26 = J_iconst 4 27 := ftl_X3_trait_26
theorem ft_X3_trait_27 : F_X3_trait 27 = J_imul 28 := ftl_X3_trait_27
theorem ft_X3_trait_28 : F_X3_trait 28 = J_iload 2 29 := ftl_X3_trait_28
theorem ft_X3_trait_29 : F_X3_trait 29 = J_iadd 30 := ftl_X3_trait_29
theorem ft_X3_trait_30 : F_X3_trait 30 = J_iaload 31 := ftl_X3_trait_30
theorem ft_X3_trait_31 : F_X3_trait 31 = J_ireturn 0 0 := ftl_X3_trait_31
def S_X3_trait : jSp := fun nb vs mem Q => jcs vs ≤ 3 ∧ jrun F_X3_trait [] 40 Q (fun _ _ _ _ _ => False) 0 (jargs vs ++ []) [] mem (nb, 0, 0)
theorem ok_X3_trait : jMeets Y_X3_trait S_X3_trait := fun _ _ _ _ h => Ok.inl OK_X3_trait 40 [] pn3 rfl h
theorem s_X3_trait {nb d : Nat} {C : Nat → Nat → Int32} {z : Nat → Int64} {c w : Int32} {Q : jQ} (h : jD d) : S_X3_trait nb [.ref 3, .int c, .int w] (memS d C z) Q = Q (some (.int (traitF (C 5) c w))) (memS d C z) := by
  refine (eq_le rfl).trans ?_
  simp -implicitDefEqProofs only [jr_0, jr_1, jr_2, j_iconst, j_lconst, j_iload0, j_aload0, j_istore0, j_astore0, j_iinc0, j_iload1, j_aload1, j_istore1, j_astore1, j_iinc1, j_iload2, j_aload2, j_istore2, j_astore2, j_iinc2, j_iload3, j_aload3, j_istore3, j_astore3, j_iinc3, j_iload4, j_aload4, j_istore4, j_astore4, j_iinc4, j_iload5, j_aload5, j_istore5, j_astore5, j_iinc5, j_iload6, j_aload6, j_istore6, j_astore6, j_iinc6, j_iload7, j_aload7, j_istore7, j_astore7, j_iinc7, j_iload8, j_aload8, j_istore8, j_astore8, j_iinc8, j_iadd, j_isub, j_imul, j_iand, j_ior, j_ixor, j_ishl, j_ishr, j_iushr, j_idiv, j_irem, j_ineg, j_ladd, j_lmul, j_land, j_lor, j_lcmp, j_lushr, j_lshl, j_i2l, j_l2i, j_dupI, j_dupR, j_popI, j_dup2, j_ifeq, j_iceq, j_ifne, j_icne, j_iflt, j_iclt, j_ifge, j_icge, j_ifgt, j_icgt, j_ifle, j_icle, j_goto, j_tsw, j_sw0, j_sw1, j_ireturn, j_zreturn, j_lreturn, j_return, j_getfield, j_putI, j_putJ, j_putR, j_iaload, j_baload, j_iastore, j_bastore, j_aaload, j_q, j_aastore, j_acopy, j_mmin, j_mmax, j_mabs, j_objinit, j_new, j_newI, j_newQ, j_sld, j_slen, j_callV0, j_callI0, j_callS0, j_callV1, j_callI1, j_callS1, j_callV2, j_callI2, j_callS2, j_callV3, j_callS3, j_callV4, j_callS4, j_callV5, j_callS5, j_pushS, j_pushN, j_sh0, j_sh1, j_sh2, j_sh3, j_sh4, Int32.reduceAdd, Int32.reduceMul, Int32.reduceSub, Int32.reduceLT, Int32.reduceLE, eq_self, i32_10, i32_01, ne_eq, hrow_s, hrow_n, ne10, ne100, ne1000, ne7, ne4, ne14, ne9973, or_true, true_or, or_false, false_or, not_true_eq_false, not_false_eq_true, false_implies, implies_true, and_true, forall_const, true_implies, jargs_n, jargs_r, jargs_i, List.cons_append, List.nil_append, true_and, Nat.reduceEqDiff, reduceIte, ft_X3_trait_0, ft_X3_trait_1, ft_X3_trait_4, ft_X3_trait_5, ft_X3_trait_7, ft_X3_trait_10, ft_X3_trait_11, ft_X3_trait_14, ft_X3_trait_15, ft_X3_trait_16, ft_X3_trait_19, ft_X3_trait_20, ft_X3_trait_21, ft_X3_trait_22, ft_X3_trait_25, ft_X3_trait_26, ft_X3_trait_27, ft_X3_trait_28, ft_X3_trait_29, ft_X3_trait_30, ft_X3_trait_31, fl_3_1d h, al_5d h]
  have := @trait_in c w
  grind [traitF]
def F_X4_isLive_0 : Nat → jT := fun pc => (bif Nat.blt pc 6 then (bif Nat.blt pc 2 then (bif Nat.blt pc 1 then (bif Nat.beq pc 0 then J_aload 0 1 else jbad) else (bif Nat.beq pc 1 then J_iload 1 2 else jbad)) else (bif Nat.blt pc 3 then (bif Nat.beq pc 2 then J_iconst 2 3 else jbad) else (bif Nat.beq pc 3 then J_callV 4 S_X4_get 2 6 else jbad))) else (bif Nat.blt pc 8 then (bif Nat.blt pc 7 then (bif Nat.beq pc 6 then J_istore 2 7 else jbad) else (bif Nat.beq pc 7 then J_iload 2 8 else jbad)) else (bif Nat.blt pc 9 then (bif Nat.beq pc 8 then J_iconst 1 9 else jbad) else (bif Nat.blt pc 12 then (bif Nat.beq pc 9 then J_iceq 22 12 else jbad) else (bif Nat.beq pc 12 then J_iload 2 13 else jbad)))))
theorem ftl_X4_isLive_0 : F_X4_isLive_0 0 = J_aload 0 1 := rfl
theorem ftl_X4_isLive_1 : F_X4_isLive_0 1 = J_iload 1 2 := rfl
theorem ftl_X4_isLive_2 : F_X4_isLive_0 2 = J_iconst 2 3 := rfl
theorem ftl_X4_isLive_3 : F_X4_isLive_0 3 = J_callV 4 S_X4_get 2 6 := rfl
theorem ftl_X4_isLive_6 : F_X4_isLive_0 6 = J_istore 2 7 := rfl
theorem ftl_X4_isLive_7 : F_X4_isLive_0 7 = J_iload 2 8 := rfl
theorem ftl_X4_isLive_8 : F_X4_isLive_0 8 = J_iconst 1 9 := rfl
theorem ftl_X4_isLive_9 : F_X4_isLive_0 9 = J_iceq 22 12 := rfl
theorem ftl_X4_isLive_12 : F_X4_isLive_0 12 = J_iload 2 13 := rfl
theorem F_X4_isLive_0_ok : jOK Y_X4_isLive none (F_X4_isLive_0) := (jOK_node (jOK_node (jOK_node (jOK_leaf (sn_aload_n dX4_isLive_0 rfl rfl)) (jOK_leaf (sn_iload_n dX4_isLive_1 rfl rfl))) (jOK_node (jOK_leaf (sn_iconst dX4_isLive_2 rfl rfl)) (jOK_leaf (sn_callV (Y' := Y_X4_get) ok_X4_get dX4_isLive_3 rfl rfl rfl tw_266 tw_267 tw_268 tw_5 jc_X4_get rfl ⟨by decide, by decide, rfl⟩ ⟨by decide, by decide⟩)))) (jOK_node (jOK_node (jOK_leaf (sn_istore_n dX4_isLive_6 rfl rfl (by decide))) (jOK_leaf (sn_iload_n dX4_isLive_7 rfl rfl))) (jOK_node (jOK_leaf (sn_iconst dX4_isLive_8 rfl rfl)) (jOK_node (jOK_leaf (sn_iceq dX4_isLive_9 rfl rfl)) (jOK_leaf (sn_iload_n dX4_isLive_12 rfl rfl))))))
def F_X4_isLive_13 : Nat → jT := fun pc => (bif Nat.blt pc 19 then (bif Nat.blt pc 17 then (bif Nat.blt pc 14 then (bif Nat.beq pc 13 then J_iconst 2 14 else jbad) else (bif Nat.beq pc 14 then J_iceq 22 17 else jbad)) else (bif Nat.blt pc 18 then (bif Nat.beq pc 17 then J_iload 2 18 else jbad) else (bif Nat.beq pc 18 then J_iconst 3 19 else jbad))) else (bif Nat.blt pc 23 then (bif Nat.blt pc 22 then (bif Nat.beq pc 19 then J_icne 26 22 else jbad) else (bif Nat.beq pc 22 then J_iconst 1 23 else jbad)) else (bif Nat.blt pc 26 then (bif Nat.beq pc 23 then J_goto 27 else jbad) else (bif Nat.blt pc 27 then (bif Nat.beq pc 26 then J_iconst 0 27 else jbad) else (bif Nat.beq pc 27 then J_zreturn 0 0 else jbad)))))
theorem ftl_X4_isLive_13 : F_X4_isLive_13 13 = J_iconst 2 14 := rfl
theorem ftl_X4_isLive_14 : F_X4_isLive_13 14 = J_iceq 22 17 := rfl
theorem ftl_X4_isLive_17 : F_X4_isLive_13 17 = J_iload 2 18 := rfl
theorem ftl_X4_isLive_18 : F_X4_isLive_13 18 = J_iconst 3 19 := rfl
theorem ftl_X4_isLive_19 : F_X4_isLive_13 19 = J_icne 26 22 := rfl
theorem ftl_X4_isLive_22 : F_X4_isLive_13 22 = J_iconst 1 23 := rfl
theorem ftl_X4_isLive_23 : F_X4_isLive_13 23 = J_goto 27 := rfl
theorem ftl_X4_isLive_26 : F_X4_isLive_13 26 = J_iconst 0 27 := rfl
theorem ftl_X4_isLive_27 : F_X4_isLive_13 27 = J_zreturn 0 0 := rfl
theorem F_X4_isLive_13_ok : jOK Y_X4_isLive none (F_X4_isLive_13) := (jOK_node (jOK_node (jOK_node (jOK_leaf (sn_iconst dX4_isLive_13 rfl rfl)) (jOK_leaf (sn_iceq dX4_isLive_14 rfl rfl))) (jOK_node (jOK_leaf (sn_iload_n dX4_isLive_17 rfl rfl)) (jOK_leaf (sn_iconst dX4_isLive_18 rfl rfl)))) (jOK_node (jOK_node (jOK_leaf (sn_icne dX4_isLive_19 rfl rfl)) (jOK_leaf (sn_iconst dX4_isLive_22 rfl rfl))) (jOK_node (jOK_leaf (sn_goto dX4_isLive_23 rfl)) (jOK_node (jOK_leaf (sn_iconst dX4_isLive_26 rfl rfl)) (jOK_leaf (sn_zreturn dX4_isLive_27 rfl rfl))))))
def F_X4_isLive_0_27 : Nat → jT := fun pc => bif Nat.blt pc 13 then F_X4_isLive_0 pc else F_X4_isLive_13 pc
theorem F_X4_isLive_0_27_ok : jOK Y_X4_isLive none (F_X4_isLive_0_27) := jOK_node (F_X4_isLive_0_ok) (F_X4_isLive_13_ok)
def F_X4_isLive : Nat → jT := F_X4_isLive_0_27
theorem OK_X4_isLive : jOK Y_X4_isLive none (F_X4_isLive) := F_X4_isLive_0_27_ok
theorem ft_X4_isLive_0 : F_X4_isLive 0 = J_aload 0 1 := ftl_X4_isLive_0
theorem ft_X4_isLive_1 : F_X4_isLive 1 = J_iload 1 2 := ftl_X4_isLive_1
theorem ft_X4_isLive_2 : F_X4_isLive 2 = J_iconst 2 3 := ftl_X4_isLive_2
theorem ft_X4_isLive_3 : F_X4_isLive 3 = J_callV 4 S_X4_get 2 6 := ftl_X4_isLive_3
theorem ft_X4_isLive_6 : F_X4_isLive 6 = J_istore 2 7 := ftl_X4_isLive_6
theorem ft_X4_isLive_7 : F_X4_isLive 7 = J_iload 2 8 := ftl_X4_isLive_7
theorem ft_X4_isLive_8 : F_X4_isLive 8 = J_iconst 1 9 := ftl_X4_isLive_8
theorem ft_X4_isLive_9 : F_X4_isLive 9 = J_iceq 22 12 := ftl_X4_isLive_9
theorem ft_X4_isLive_12 : F_X4_isLive 12 = J_iload 2 13 := ftl_X4_isLive_12
theorem ft_X4_isLive_13 : F_X4_isLive 13 = J_iconst 2 14 := ftl_X4_isLive_13
theorem ft_X4_isLive_14 : F_X4_isLive 14 = J_iceq 22 17 := ftl_X4_isLive_14
theorem ft_X4_isLive_17 : F_X4_isLive 17 = J_iload 2 18 := ftl_X4_isLive_17
theorem ft_X4_isLive_18 : F_X4_isLive 18 = J_iconst 3 19 := ftl_X4_isLive_18
theorem ft_X4_isLive_19 : F_X4_isLive 19 = J_icne 26 22 := ftl_X4_isLive_19
theorem ft_X4_isLive_22 : F_X4_isLive 22 = J_iconst 1 23 := ftl_X4_isLive_22
theorem ft_X4_isLive_23 : F_X4_isLive 23 = J_goto 27 := ftl_X4_isLive_23
theorem ft_X4_isLive_26 : F_X4_isLive 26 = J_iconst 0 27 := ftl_X4_isLive_26
theorem ft_X4_isLive_27 : F_X4_isLive 27 = J_zreturn 0 0 := ftl_X4_isLive_27
def S_X4_isLive : jSp := fun nb vs mem Q => jcs vs ≤ 3 ∧ jrun F_X4_isLive [] 40 Q (fun _ _ _ _ _ => False) 0 (jargs vs ++ [none]) [] mem (nb, 0, 0)
theorem ok_X4_isLive : jMeets Y_X4_isLive S_X4_isLive := fun _ _ _ _ h => Ok.inl OK_X4_isLive 40 [none] pn4 rfl h
theorem s_X4_isLive {nb d s : Nat} {C : Nat → Nat → Int32} {z : Nat → Int64} {p : Int32} {Q : jQ} (h : jSt s d) : S_X4_isLive nb [.ref s, .int p] (memS d C z) Q = Q (some (.int (zb (rget (C s) p 2 = 1 ∨ rget (C s) p 2 = 2 ∨ rget (C s) p 2 = 3)))) (memS d C z) := by
  refine (eq_le rfl).trans ?_
  simp -implicitDefEqProofs only [jr_0, jr_1, jr_2, j_iconst, j_lconst, j_iload0, j_aload0, j_istore0, j_astore0, j_iinc0, j_iload1, j_aload1, j_istore1, j_astore1, j_iinc1, j_iload2, j_aload2, j_istore2, j_astore2, j_iinc2, j_iload3, j_aload3, j_istore3, j_astore3, j_iinc3, j_iload4, j_aload4, j_istore4, j_astore4, j_iinc4, j_iload5, j_aload5, j_istore5, j_astore5, j_iinc5, j_iload6, j_aload6, j_istore6, j_astore6, j_iinc6, j_iload7, j_aload7, j_istore7, j_astore7, j_iinc7, j_iload8, j_aload8, j_istore8, j_astore8, j_iinc8, j_iadd, j_isub, j_imul, j_iand, j_ior, j_ixor, j_ishl, j_ishr, j_iushr, j_idiv, j_irem, j_ineg, j_ladd, j_lmul, j_land, j_lor, j_lcmp, j_lushr, j_lshl, j_i2l, j_l2i, j_dupI, j_dupR, j_popI, j_dup2, j_ifeq, j_iceq, j_ifne, j_icne, j_iflt, j_iclt, j_ifge, j_icge, j_ifgt, j_icgt, j_ifle, j_icle, j_goto, j_tsw, j_sw0, j_sw1, j_ireturn, j_zreturn, j_lreturn, j_return, j_getfield, j_putI, j_putJ, j_putR, j_iaload, j_baload, j_iastore, j_bastore, j_aaload, j_q, j_aastore, j_acopy, j_mmin, j_mmax, j_mabs, j_objinit, j_new, j_newI, j_newQ, j_sld, j_slen, j_callV0, j_callI0, j_callS0, j_callV1, j_callI1, j_callS1, j_callV2, j_callI2, j_callS2, j_callV3, j_callS3, j_callV4, j_callS4, j_callV5, j_callS5, j_pushS, j_pushN, j_sh0, j_sh1, j_sh2, j_sh3, j_sh4, Int32.reduceAdd, Int32.reduceMul, Int32.reduceSub, Int32.reduceLT, Int32.reduceLE, eq_self, i32_10, i32_01, ne_eq, hrow_s, hrow_n, ne10, ne100, ne1000, ne7, ne4, ne14, ne9973, or_true, true_or, or_false, false_or, not_true_eq_false, not_false_eq_true, false_implies, implies_true, and_true, forall_const, true_implies, jargs_n, jargs_r, jargs_i, List.cons_append, List.nil_append, true_and, Nat.reduceEqDiff, reduceIte, ft_X4_isLive_0, ft_X4_isLive_1, ft_X4_isLive_2, ft_X4_isLive_3, ft_X4_isLive_6, ft_X4_isLive_7, ft_X4_isLive_8, ft_X4_isLive_9, ft_X4_isLive_12, ft_X4_isLive_13, ft_X4_isLive_14, ft_X4_isLive_17, ft_X4_isLive_18, ft_X4_isLive_19, ft_X4_isLive_22, ft_X4_isLive_23, ft_X4_isLive_26, ft_X4_isLive_27, jrcv_st h, s_X4_get h]
  grind [zb]
def postOfF (ρ : Nat → Int32) (c : Int32) : Int32 := if ρ 0 = c then 0 else if ρ 1 = c then 1 else if ρ 2 = c then 2 else if ρ 3 = c then 3 else -9
def F_X4_postOf_0 : Nat → jT := fun pc => (bif Nat.blt pc 4 then (bif Nat.blt pc 2 then (bif Nat.blt pc 1 then (bif Nat.beq pc 0 then J_iconst 0 1 else jbad) else (bif Nat.beq pc 1 then J_istore 2 2 else jbad)) else (bif Nat.blt pc 3 then (bif Nat.beq pc 2 then J_iload 2 3 else jbad) else (bif Nat.beq pc 3 then J_iconst 4 4 else jbad))) else (bif Nat.blt pc 8 then (bif Nat.blt pc 7 then (bif Nat.beq pc 4 then J_icge 25 7 else jbad) else (bif Nat.beq pc 7 then J_aload 0 8 else jbad)) else (bif Nat.blt pc 9 then (bif Nat.beq pc 8 then J_iload 2 9 else jbad) else (bif Nat.beq pc 9 then J_iconst 1 10 else jbad))))
theorem ftl_X4_postOf_0 : F_X4_postOf_0 0 = J_iconst 0 1 := rfl
theorem ftl_X4_postOf_1 : F_X4_postOf_0 1 = J_istore 2 2 := rfl
theorem ftl_X4_postOf_2 : F_X4_postOf_0 2 = J_iload 2 3 := rfl
theorem ftl_X4_postOf_3 : F_X4_postOf_0 3 = J_iconst 4 4 := rfl
theorem ftl_X4_postOf_4 : F_X4_postOf_0 4 = J_icge 25 7 := rfl
theorem ftl_X4_postOf_7 : F_X4_postOf_0 7 = J_aload 0 8 := rfl
theorem ftl_X4_postOf_8 : F_X4_postOf_0 8 = J_iload 2 9 := rfl
theorem ftl_X4_postOf_9 : F_X4_postOf_0 9 = J_iconst 1 10 := rfl
theorem F_X4_postOf_0_ok : jOK Y_X4_postOf none (F_X4_postOf_0) := (jOK_node (jOK_node (jOK_node (jOK_leaf (sn_iconst dX4_postOf_0 rfl rfl)) (jOK_leaf (sn_istore_n dX4_postOf_1 rfl rfl (by decide)))) (jOK_node (jOK_leaf (sn_iload_n dX4_postOf_2 rfl rfl)) (jOK_leaf (sn_iconst dX4_postOf_3 rfl rfl)))) (jOK_node (jOK_node (jOK_leaf (sn_icge dX4_postOf_4 rfl rfl)) (jOK_leaf (sn_aload_n dX4_postOf_7 rfl rfl))) (jOK_node (jOK_leaf (sn_iload_n dX4_postOf_8 rfl rfl)) (jOK_leaf (sn_iconst dX4_postOf_9 rfl rfl)))))
def F_X4_postOf_10 : Nat → jT := fun pc => (bif Nat.blt pc 18 then (bif Nat.blt pc 14 then (bif Nat.blt pc 13 then (bif Nat.beq pc 10 then J_callV 4 S_X4_get 2 13 else jbad) else (bif Nat.beq pc 13 then J_iload 1 14 else jbad)) else (bif Nat.blt pc 17 then (bif Nat.beq pc 14 then J_icne 19 17 else jbad) else (bif Nat.beq pc 17 then J_iload 2 18 else jbad))) else (bif Nat.blt pc 22 then (bif Nat.blt pc 19 then (bif Nat.beq pc 18 then J_ireturn 0 0 else jbad) else (bif Nat.beq pc 19 then J_iinc 2 1 22 else jbad)) else (bif Nat.blt pc 25 then (bif Nat.beq pc 22 then J_goto 2 else jbad) else (bif Nat.blt pc 27 then (bif Nat.beq pc 25 then J_iconst (-9) 27 else jbad) else (bif Nat.beq pc 27 then J_ireturn 0 0 else jbad)))))
theorem ftl_X4_postOf_10 : F_X4_postOf_10 10 = J_callV 4 S_X4_get 2 13 := rfl
theorem ftl_X4_postOf_13 : F_X4_postOf_10 13 = J_iload 1 14 := rfl
theorem ftl_X4_postOf_14 : F_X4_postOf_10 14 = J_icne 19 17 := rfl
theorem ftl_X4_postOf_17 : F_X4_postOf_10 17 = J_iload 2 18 := rfl
theorem ftl_X4_postOf_18 : F_X4_postOf_10 18 = J_ireturn 0 0 := rfl
theorem ftl_X4_postOf_19 : F_X4_postOf_10 19 = J_iinc 2 1 22 := rfl
theorem ftl_X4_postOf_22 : F_X4_postOf_10 22 = J_goto 2 := rfl
theorem ftl_X4_postOf_25 : F_X4_postOf_10 25 = J_iconst (-9) 27 := rfl
theorem ftl_X4_postOf_27 : F_X4_postOf_10 27 = J_ireturn 0 0 := rfl
theorem F_X4_postOf_10_ok : jOK Y_X4_postOf none (F_X4_postOf_10) := (jOK_node (jOK_node (jOK_node (jOK_leaf (sn_callV (Y' := Y_X4_get) ok_X4_get dX4_postOf_10 rfl rfl rfl tw_266 tw_267 tw_268 tw_5 jc_X4_get rfl ⟨by decide, by decide, rfl⟩ ⟨by decide, by decide⟩)) (jOK_leaf (sn_iload_n dX4_postOf_13 rfl rfl))) (jOK_node (jOK_leaf (sn_icne dX4_postOf_14 rfl rfl)) (jOK_leaf (sn_iload_n dX4_postOf_17 rfl rfl)))) (jOK_node (jOK_node (jOK_leaf (sn_ireturn dX4_postOf_18 rfl rfl)) (jOK_leaf (sn_iinc dX4_postOf_19 rfl rfl (by decide)))) (jOK_node (jOK_leaf (sn_goto dX4_postOf_22 rfl)) (jOK_node (jOK_leaf (sn_bipush dX4_postOf_25 rfl rfl)) (jOK_leaf (sn_ireturn dX4_postOf_27 rfl rfl))))))
def F_X4_postOf_0_27 : Nat → jT := fun pc => bif Nat.blt pc 10 then F_X4_postOf_0 pc else F_X4_postOf_10 pc
theorem F_X4_postOf_0_27_ok : jOK Y_X4_postOf none (F_X4_postOf_0_27) := jOK_node (F_X4_postOf_0_ok) (F_X4_postOf_10_ok)
def F_X4_postOf : Nat → jT := F_X4_postOf_0_27
theorem OK_X4_postOf : jOK Y_X4_postOf none (F_X4_postOf) := F_X4_postOf_0_27_ok
theorem ft_X4_postOf_0 : F_X4_postOf 0 = J_iconst 0 1 := ftl_X4_postOf_0
theorem ft_X4_postOf_1 : F_X4_postOf 1 = J_istore 2 2 := ftl_X4_postOf_1
theorem ft_X4_postOf_2 : F_X4_postOf 2 = J_iload 2 3 := ftl_X4_postOf_2
theorem ft_X4_postOf_3 : F_X4_postOf 3 = J_iconst 4 4 := ftl_X4_postOf_3
theorem ft_X4_postOf_4 : F_X4_postOf 4 = J_icge 25 7 := ftl_X4_postOf_4
theorem ft_X4_postOf_7 : F_X4_postOf 7 = J_aload 0 8 := ftl_X4_postOf_7
theorem ft_X4_postOf_8 : F_X4_postOf 8 = J_iload 2 9 := ftl_X4_postOf_8
theorem ft_X4_postOf_9 : F_X4_postOf 9 = J_iconst 1 10 := ftl_X4_postOf_9
theorem ft_X4_postOf_10 : F_X4_postOf 10 = J_callV 4 S_X4_get 2 13 := ftl_X4_postOf_10
theorem ft_X4_postOf_13 : F_X4_postOf 13 = J_iload 1 14 := ftl_X4_postOf_13
theorem ft_X4_postOf_14 : F_X4_postOf 14 = J_icne 19 17 := ftl_X4_postOf_14
theorem ft_X4_postOf_17 : F_X4_postOf 17 = J_iload 2 18 := ftl_X4_postOf_17
theorem ft_X4_postOf_18 : F_X4_postOf 18 = J_ireturn 0 0 := ftl_X4_postOf_18
theorem ft_X4_postOf_19 : F_X4_postOf 19 = J_iinc 2 1 22 := ftl_X4_postOf_19
theorem ft_X4_postOf_22 : F_X4_postOf 22 = J_goto 2 := ftl_X4_postOf_22
theorem ft_X4_postOf_25 : F_X4_postOf 25 = J_iconst (-9) 27 := ftl_X4_postOf_25
theorem ft_X4_postOf_27 : F_X4_postOf 27 = J_ireturn 0 0 := ftl_X4_postOf_27
def S_X4_postOf : jSp := fun nb vs mem Q => jcs vs ≤ 3 ∧ jrun F_X4_postOf [] 80 Q (fun _ _ _ _ _ => False) 0 (jargs vs ++ [none]) [] mem (nb, 0, 0)
theorem ok_X4_postOf : jMeets Y_X4_postOf S_X4_postOf := fun _ _ _ _ h => Ok.inl OK_X4_postOf 80 [none] pn4 rfl h
theorem s_X4_postOf {nb d s : Nat} {C : Nat → Nat → Int32} {z : Nat → Int64} {c : Int32} {Q : jQ} (h : jSt s d) : S_X4_postOf nb [.ref s, .int c] (memS d C z) Q = Q (some (.int (postOfF (C s) c))) (memS d C z) := by
  refine (eq_le rfl).trans ?_
  simp -implicitDefEqProofs only [jr_0, jr_1, jr_2, j_iconst, j_lconst, j_iload0, j_aload0, j_istore0, j_astore0, j_iinc0, j_iload1, j_aload1, j_istore1, j_astore1, j_iinc1, j_iload2, j_aload2, j_istore2, j_astore2, j_iinc2, j_iload3, j_aload3, j_istore3, j_astore3, j_iinc3, j_iload4, j_aload4, j_istore4, j_astore4, j_iinc4, j_iload5, j_aload5, j_istore5, j_astore5, j_iinc5, j_iload6, j_aload6, j_istore6, j_astore6, j_iinc6, j_iload7, j_aload7, j_istore7, j_astore7, j_iinc7, j_iload8, j_aload8, j_istore8, j_astore8, j_iinc8, j_iadd, j_isub, j_imul, j_iand, j_ior, j_ixor, j_ishl, j_ishr, j_iushr, j_idiv, j_irem, j_ineg, j_ladd, j_lmul, j_land, j_lor, j_lcmp, j_lushr, j_lshl, j_i2l, j_l2i, j_dupI, j_dupR, j_popI, j_dup2, j_ifeq, j_iceq, j_ifne, j_icne, j_iflt, j_iclt, j_ifge, j_icge, j_ifgt, j_icgt, j_ifle, j_icle, j_goto, j_tsw, j_sw0, j_sw1, j_ireturn, j_zreturn, j_lreturn, j_return, j_getfield, j_putI, j_putJ, j_putR, j_iaload, j_baload, j_iastore, j_bastore, j_aaload, j_q, j_aastore, j_acopy, j_mmin, j_mmax, j_mabs, j_objinit, j_new, j_newI, j_newQ, j_sld, j_slen, j_callV0, j_callI0, j_callS0, j_callV1, j_callI1, j_callS1, j_callV2, j_callI2, j_callS2, j_callV3, j_callS3, j_callV4, j_callS4, j_callV5, j_callS5, j_pushS, j_pushN, j_sh0, j_sh1, j_sh2, j_sh3, j_sh4, Int32.reduceAdd, Int32.reduceMul, Int32.reduceSub, Int32.reduceLT, Int32.reduceLE, eq_self, i32_10, i32_01, ne_eq, hrow_s, hrow_n, ne10, ne100, ne1000, ne7, ne4, ne14, ne9973, or_true, true_or, or_false, false_or, not_true_eq_false, not_false_eq_true, false_implies, implies_true, and_true, forall_const, true_implies, jargs_n, jargs_r, jargs_i, List.cons_append, List.nil_append, true_and, Nat.reduceEqDiff, reduceIte, ft_X4_postOf_0, ft_X4_postOf_1, ft_X4_postOf_2, ft_X4_postOf_3, ft_X4_postOf_4, ft_X4_postOf_7, ft_X4_postOf_8, ft_X4_postOf_9, ft_X4_postOf_10, ft_X4_postOf_13, ft_X4_postOf_14, ft_X4_postOf_17, ft_X4_postOf_18, ft_X4_postOf_19, ft_X4_postOf_22, ft_X4_postOf_25, ft_X4_postOf_27, jrcv_st h, s_X4_get h, rg_0_1, rg_0_2, rg_0_3, rg_0_4, rg_0_5, rg_0_6, rg_0_7, rg_0_8, rg_1_1, rg_1_2, rg_1_3, rg_1_4, rg_1_5, rg_1_6, rg_1_7, rg_1_8, rg_2_1, rg_2_2, rg_2_3, rg_2_4, rg_2_5, rg_2_6, rg_2_7, rg_2_8, rg_3_1, rg_3_2, rg_3_3, rg_3_4, rg_3_5, rg_3_6, rg_3_7, rg_3_8]
  grind [postOfF]
def carsF (ρ : Nat → Int32) : Int32 := (if ρ 0 = -9 then 0 else 1) + (if ρ 1 = -9 then 0 else 1) + (if ρ 2 = -9 then 0 else 1) + (if ρ 3 = -9 then 0 else 1)
def F_X4_carsAtPosts_0 : Nat → jT := fun pc => (bif Nat.blt pc 4 then (bif Nat.blt pc 2 then (bif Nat.blt pc 1 then (bif Nat.beq pc 0 then J_iconst 0 1 else jbad) else (bif Nat.beq pc 1 then J_istore 1 2 else jbad)) else (bif Nat.blt pc 3 then (bif Nat.beq pc 2 then J_iconst 0 3 else jbad) else (bif Nat.beq pc 3 then J_istore 2 4 else jbad))) else (bif Nat.blt pc 6 then (bif Nat.blt pc 5 then (bif Nat.beq pc 4 then J_iload 2 5 else jbad) else (bif Nat.beq pc 5 then J_iconst 4 6 else jbad)) else (bif Nat.blt pc 9 then (bif Nat.beq pc 6 then J_icge 29 9 else jbad) else (bif Nat.blt pc 10 then (bif Nat.beq pc 9 then J_aload 0 10 else jbad) else (bif Nat.beq pc 10 then J_iload 2 11 else jbad)))))
theorem ftl_X4_carsAtPosts_0 : F_X4_carsAtPosts_0 0 = J_iconst 0 1 := rfl
theorem ftl_X4_carsAtPosts_1 : F_X4_carsAtPosts_0 1 = J_istore 1 2 := rfl
theorem ftl_X4_carsAtPosts_2 : F_X4_carsAtPosts_0 2 = J_iconst 0 3 := rfl
theorem ftl_X4_carsAtPosts_3 : F_X4_carsAtPosts_0 3 = J_istore 2 4 := rfl
theorem ftl_X4_carsAtPosts_4 : F_X4_carsAtPosts_0 4 = J_iload 2 5 := rfl
theorem ftl_X4_carsAtPosts_5 : F_X4_carsAtPosts_0 5 = J_iconst 4 6 := rfl
theorem ftl_X4_carsAtPosts_6 : F_X4_carsAtPosts_0 6 = J_icge 29 9 := rfl
theorem ftl_X4_carsAtPosts_9 : F_X4_carsAtPosts_0 9 = J_aload 0 10 := rfl
theorem ftl_X4_carsAtPosts_10 : F_X4_carsAtPosts_0 10 = J_iload 2 11 := rfl
theorem F_X4_carsAtPosts_0_ok : jOK Y_X4_carsAtPosts none (F_X4_carsAtPosts_0) := (jOK_node (jOK_node (jOK_node (jOK_leaf (sn_iconst dX4_carsAtPosts_0 rfl rfl)) (jOK_leaf (sn_istore_n dX4_carsAtPosts_1 rfl rfl (by decide)))) (jOK_node (jOK_leaf (sn_iconst dX4_carsAtPosts_2 rfl rfl)) (jOK_leaf (sn_istore_n dX4_carsAtPosts_3 rfl rfl (by decide))))) (jOK_node (jOK_node (jOK_leaf (sn_iload_n dX4_carsAtPosts_4 rfl rfl)) (jOK_leaf (sn_iconst dX4_carsAtPosts_5 rfl rfl))) (jOK_node (jOK_leaf (sn_icge dX4_carsAtPosts_6 rfl rfl)) (jOK_node (jOK_leaf (sn_aload_n dX4_carsAtPosts_9 rfl rfl)) (jOK_leaf (sn_iload_n dX4_carsAtPosts_10 rfl rfl))))))
def F_X4_carsAtPosts_11 : Nat → jT := fun pc => (bif Nat.blt pc 20 then (bif Nat.blt pc 15 then (bif Nat.blt pc 12 then (bif Nat.beq pc 11 then J_iconst 1 12 else jbad) else (bif Nat.beq pc 12 then J_callV 4 S_X4_get 2 15 else jbad)) else (bif Nat.blt pc 17 then (bif Nat.beq pc 15 then J_iconst (-9) 17 else jbad) else (bif Nat.beq pc 17 then J_iceq 23 20 else jbad))) else (bif Nat.blt pc 26 then (bif Nat.blt pc 23 then (bif Nat.beq pc 20 then J_iinc 1 1 23 else jbad) else (bif Nat.beq pc 23 then J_iinc 2 1 26 else jbad)) else (bif Nat.blt pc 29 then (bif Nat.beq pc 26 then J_goto 4 else jbad) else (bif Nat.blt pc 30 then (bif Nat.beq pc 29 then J_iload 1 30 else jbad) else (bif Nat.beq pc 30 then J_ireturn 0 0 else jbad)))))
theorem ftl_X4_carsAtPosts_11 : F_X4_carsAtPosts_11 11 = J_iconst 1 12 := rfl
theorem ftl_X4_carsAtPosts_12 : F_X4_carsAtPosts_11 12 = J_callV 4 S_X4_get 2 15 := rfl
theorem ftl_X4_carsAtPosts_15 : F_X4_carsAtPosts_11 15 = J_iconst (-9) 17 := rfl
theorem ftl_X4_carsAtPosts_17 : F_X4_carsAtPosts_11 17 = J_iceq 23 20 := rfl
theorem ftl_X4_carsAtPosts_20 : F_X4_carsAtPosts_11 20 = J_iinc 1 1 23 := rfl
theorem ftl_X4_carsAtPosts_23 : F_X4_carsAtPosts_11 23 = J_iinc 2 1 26 := rfl
theorem ftl_X4_carsAtPosts_26 : F_X4_carsAtPosts_11 26 = J_goto 4 := rfl
theorem ftl_X4_carsAtPosts_29 : F_X4_carsAtPosts_11 29 = J_iload 1 30 := rfl
theorem ftl_X4_carsAtPosts_30 : F_X4_carsAtPosts_11 30 = J_ireturn 0 0 := rfl
theorem F_X4_carsAtPosts_11_ok : jOK Y_X4_carsAtPosts none (F_X4_carsAtPosts_11) := (jOK_node (jOK_node (jOK_node (jOK_leaf (sn_iconst dX4_carsAtPosts_11 rfl rfl)) (jOK_leaf (sn_callV (Y' := Y_X4_get) ok_X4_get dX4_carsAtPosts_12 rfl rfl rfl tw_266 tw_267 tw_268 tw_5 jc_X4_get rfl ⟨by decide, by decide, rfl⟩ ⟨by decide, by decide⟩))) (jOK_node (jOK_leaf (sn_bipush dX4_carsAtPosts_15 rfl rfl)) (jOK_leaf (sn_iceq dX4_carsAtPosts_17 rfl rfl)))) (jOK_node (jOK_node (jOK_leaf (sn_iinc dX4_carsAtPosts_20 rfl rfl (by decide))) (jOK_leaf (sn_iinc dX4_carsAtPosts_23 rfl rfl (by decide)))) (jOK_node (jOK_leaf (sn_goto dX4_carsAtPosts_26 rfl)) (jOK_node (jOK_leaf (sn_iload_n dX4_carsAtPosts_29 rfl rfl)) (jOK_leaf (sn_ireturn dX4_carsAtPosts_30 rfl rfl))))))
def F_X4_carsAtPosts_0_30 : Nat → jT := fun pc => bif Nat.blt pc 11 then F_X4_carsAtPosts_0 pc else F_X4_carsAtPosts_11 pc
theorem F_X4_carsAtPosts_0_30_ok : jOK Y_X4_carsAtPosts none (F_X4_carsAtPosts_0_30) := jOK_node (F_X4_carsAtPosts_0_ok) (F_X4_carsAtPosts_11_ok)
def F_X4_carsAtPosts : Nat → jT := F_X4_carsAtPosts_0_30
theorem OK_X4_carsAtPosts : jOK Y_X4_carsAtPosts none (F_X4_carsAtPosts) := F_X4_carsAtPosts_0_30_ok
theorem ft_X4_carsAtPosts_0 : F_X4_carsAtPosts 0 = J_iconst 0 1 := ftl_X4_carsAtPosts_0
theorem ft_X4_carsAtPosts_1 : F_X4_carsAtPosts 1 = J_istore 1 2 := ftl_X4_carsAtPosts_1
theorem ft_X4_carsAtPosts_2 : F_X4_carsAtPosts 2 = J_iconst 0 3 := ftl_X4_carsAtPosts_2
theorem ft_X4_carsAtPosts_3 : F_X4_carsAtPosts 3 = J_istore 2 4 := ftl_X4_carsAtPosts_3
theorem ft_X4_carsAtPosts_4 : F_X4_carsAtPosts 4 = J_iload 2 5 := ftl_X4_carsAtPosts_4
theorem ft_X4_carsAtPosts_5 : F_X4_carsAtPosts 5 = J_iconst 4 6 := ftl_X4_carsAtPosts_5
theorem ft_X4_carsAtPosts_6 : F_X4_carsAtPosts 6 = J_icge 29 9 := ftl_X4_carsAtPosts_6
theorem ft_X4_carsAtPosts_9 : F_X4_carsAtPosts 9 = J_aload 0 10 := ftl_X4_carsAtPosts_9
theorem ft_X4_carsAtPosts_10 : F_X4_carsAtPosts 10 = J_iload 2 11 := ftl_X4_carsAtPosts_10
theorem ft_X4_carsAtPosts_11 : F_X4_carsAtPosts 11 = J_iconst 1 12 := ftl_X4_carsAtPosts_11
theorem ft_X4_carsAtPosts_12 : F_X4_carsAtPosts 12 = J_callV 4 S_X4_get 2 15 := ftl_X4_carsAtPosts_12
theorem ft_X4_carsAtPosts_15 : F_X4_carsAtPosts 15 = J_iconst (-9) 17 := ftl_X4_carsAtPosts_15
theorem ft_X4_carsAtPosts_17 : F_X4_carsAtPosts 17 = J_iceq 23 20 := ftl_X4_carsAtPosts_17
theorem ft_X4_carsAtPosts_20 : F_X4_carsAtPosts 20 = J_iinc 1 1 23 := ftl_X4_carsAtPosts_20
theorem ft_X4_carsAtPosts_23 : F_X4_carsAtPosts 23 = J_iinc 2 1 26 := ftl_X4_carsAtPosts_23
theorem ft_X4_carsAtPosts_26 : F_X4_carsAtPosts 26 = J_goto 4 := ftl_X4_carsAtPosts_26
theorem ft_X4_carsAtPosts_29 : F_X4_carsAtPosts 29 = J_iload 1 30 := ftl_X4_carsAtPosts_29
theorem ft_X4_carsAtPosts_30 : F_X4_carsAtPosts 30 = J_ireturn 0 0 := ftl_X4_carsAtPosts_30
def S_X4_carsAtPosts : jSp := fun nb vs mem Q => jcs vs ≤ 3 ∧ jrun F_X4_carsAtPosts [] 100 Q (fun _ _ _ _ _ => False) 0 (jargs vs ++ [none, none]) [] mem (nb, 0, 0)
theorem ok_X4_carsAtPosts : jMeets Y_X4_carsAtPosts S_X4_carsAtPosts := fun _ _ _ _ h => Ok.inl OK_X4_carsAtPosts 100 [none, none] pn4 rfl h
theorem s_X4_carsAtPosts {nb d s : Nat} {C : Nat → Nat → Int32} {z : Nat → Int64} {Q : jQ} (h : jSt s d) : S_X4_carsAtPosts nb [.ref s] (memS d C z) Q = Q (some (.int (carsF (C s)))) (memS d C z) := by
  refine (eq_le rfl).trans ?_
  simp -implicitDefEqProofs only [jr_0, jr_1, jr_2, j_iconst, j_lconst, j_iload0, j_aload0, j_istore0, j_astore0, j_iinc0, j_iload1, j_aload1, j_istore1, j_astore1, j_iinc1, j_iload2, j_aload2, j_istore2, j_astore2, j_iinc2, j_iload3, j_aload3, j_istore3, j_astore3, j_iinc3, j_iload4, j_aload4, j_istore4, j_astore4, j_iinc4, j_iload5, j_aload5, j_istore5, j_astore5, j_iinc5, j_iload6, j_aload6, j_istore6, j_astore6, j_iinc6, j_iload7, j_aload7, j_istore7, j_astore7, j_iinc7, j_iload8, j_aload8, j_istore8, j_astore8, j_iinc8, j_iadd, j_isub, j_imul, j_iand, j_ior, j_ixor, j_ishl, j_ishr, j_iushr, j_idiv, j_irem, j_ineg, j_ladd, j_lmul, j_land, j_lor, j_lcmp, j_lushr, j_lshl, j_i2l, j_l2i, j_dupI, j_dupR, j_popI, j_dup2, j_ifeq, j_iceq, j_ifne, j_icne, j_iflt, j_iclt, j_ifge, j_icge, j_ifgt, j_icgt, j_ifle, j_icle, j_goto, j_tsw, j_sw0, j_sw1, j_ireturn, j_zreturn, j_lreturn, j_return, j_getfield, j_putI, j_putJ, j_putR, j_iaload, j_baload, j_iastore, j_bastore, j_aaload, j_q, j_aastore, j_acopy, j_mmin, j_mmax, j_mabs, j_objinit, j_new, j_newI, j_newQ, j_sld, j_slen, j_callV0, j_callI0, j_callS0, j_callV1, j_callI1, j_callS1, j_callV2, j_callI2, j_callS2, j_callV3, j_callS3, j_callV4, j_callS4, j_callV5, j_callS5, j_pushS, j_pushN, j_sh0, j_sh1, j_sh2, j_sh3, j_sh4, Int32.reduceAdd, Int32.reduceMul, Int32.reduceSub, Int32.reduceLT, Int32.reduceLE, eq_self, i32_10, i32_01, ne_eq, hrow_s, hrow_n, ne10, ne100, ne1000, ne7, ne4, ne14, ne9973, or_true, true_or, or_false, false_or, not_true_eq_false, not_false_eq_true, false_implies, implies_true, and_true, forall_const, true_implies, jargs_n, jargs_r, jargs_i, List.cons_append, List.nil_append, true_and, Nat.reduceEqDiff, reduceIte, ft_X4_carsAtPosts_0, ft_X4_carsAtPosts_1, ft_X4_carsAtPosts_2, ft_X4_carsAtPosts_3, ft_X4_carsAtPosts_4, ft_X4_carsAtPosts_5, ft_X4_carsAtPosts_6, ft_X4_carsAtPosts_9, ft_X4_carsAtPosts_10, ft_X4_carsAtPosts_11, ft_X4_carsAtPosts_12, ft_X4_carsAtPosts_15, ft_X4_carsAtPosts_17, ft_X4_carsAtPosts_20, ft_X4_carsAtPosts_23, ft_X4_carsAtPosts_26, ft_X4_carsAtPosts_29, ft_X4_carsAtPosts_30, jrcv_st h, s_X4_get h, rg_0_1, rg_0_2, rg_0_3, rg_0_4, rg_0_5, rg_0_6, rg_0_7, rg_0_8, rg_1_1, rg_1_2, rg_1_3, rg_1_4, rg_1_5, rg_1_6, rg_1_7, rg_1_8, rg_2_1, rg_2_2, rg_2_3, rg_2_4, rg_2_5, rg_2_6, rg_2_7, rg_2_8, rg_3_1, rg_3_2, rg_3_3, rg_3_4, rg_3_5, rg_3_6, rg_3_7, rg_3_8]
  by_cases g0 : C s 0 = -9 <;> by_cases g1 : C s 1 = -9 <;> by_cases g2 : C s 2 = -9 <;> by_cases g3 : C s 3 = -9 <;> simp [carsF, g0, g1, g2, g3]
def F_X4_allCharged_0 : Nat → jT := fun pc => (bif Nat.blt pc 4 then (bif Nat.blt pc 2 then (bif Nat.blt pc 1 then (bif Nat.beq pc 0 then J_iconst 0 1 else jbad) else (bif Nat.beq pc 1 then J_istore 1 2 else jbad)) else (bif Nat.blt pc 3 then (bif Nat.beq pc 2 then J_iload 1 3 else jbad) else (bif Nat.beq pc 3 then J_iconst 4 4 else jbad))) else (bif Nat.blt pc 8 then (bif Nat.blt pc 7 then (bif Nat.beq pc 4 then J_icge 28 7 else jbad) else (bif Nat.beq pc 7 then J_aload 0 8 else jbad)) else (bif Nat.blt pc 9 then (bif Nat.beq pc 8 then J_aload 0 9 else jbad) else (bif Nat.blt pc 10 then (bif Nat.beq pc 9 then J_iload 1 10 else jbad) else (bif Nat.beq pc 10 then J_iconst 1 11 else jbad)))))
theorem ftl_X4_allCharged_0 : F_X4_allCharged_0 0 = J_iconst 0 1 := rfl
theorem ftl_X4_allCharged_1 : F_X4_allCharged_0 1 = J_istore 1 2 := rfl
theorem ftl_X4_allCharged_2 : F_X4_allCharged_0 2 = J_iload 1 3 := rfl
theorem ftl_X4_allCharged_3 : F_X4_allCharged_0 3 = J_iconst 4 4 := rfl
theorem ftl_X4_allCharged_4 : F_X4_allCharged_0 4 = J_icge 28 7 := rfl
theorem ftl_X4_allCharged_7 : F_X4_allCharged_0 7 = J_aload 0 8 := rfl
theorem ftl_X4_allCharged_8 : F_X4_allCharged_0 8 = J_aload 0 9 := rfl
theorem ftl_X4_allCharged_9 : F_X4_allCharged_0 9 = J_iload 1 10 := rfl
theorem ftl_X4_allCharged_10 : F_X4_allCharged_0 10 = J_iconst 1 11 := rfl
theorem F_X4_allCharged_0_ok : jOK Y_X4_allCharged none (F_X4_allCharged_0) := (jOK_node (jOK_node (jOK_node (jOK_leaf (sn_iconst dX4_allCharged_0 rfl rfl)) (jOK_leaf (sn_istore_n dX4_allCharged_1 rfl rfl (by decide)))) (jOK_node (jOK_leaf (sn_iload_n dX4_allCharged_2 rfl rfl)) (jOK_leaf (sn_iconst dX4_allCharged_3 rfl rfl)))) (jOK_node (jOK_node (jOK_leaf (sn_icge dX4_allCharged_4 rfl rfl)) (jOK_leaf (sn_aload_n dX4_allCharged_7 rfl rfl))) (jOK_node (jOK_leaf (sn_aload_n dX4_allCharged_8 rfl rfl)) (jOK_node (jOK_leaf (sn_iload_n dX4_allCharged_9 rfl rfl)) (jOK_leaf (sn_iconst dX4_allCharged_10 rfl rfl))))))
def F_X4_allCharged_11 : Nat → jT := fun pc => (bif Nat.blt pc 21 then (bif Nat.blt pc 17 then (bif Nat.blt pc 14 then (bif Nat.beq pc 11 then J_callV 4 S_X4_get 2 14 else jbad) else (bif Nat.beq pc 14 then J_callV 4 S_X4_restOf 1 17 else jbad)) else (bif Nat.blt pc 20 then (bif Nat.beq pc 17 then J_ifle 22 20 else jbad) else (bif Nat.beq pc 20 then J_iconst 0 21 else jbad))) else (bif Nat.blt pc 25 then (bif Nat.blt pc 22 then (bif Nat.beq pc 21 then J_zreturn 0 0 else jbad) else (bif Nat.beq pc 22 then J_iinc 1 1 25 else jbad)) else (bif Nat.blt pc 28 then (bif Nat.beq pc 25 then J_goto 2 else jbad) else (bif Nat.blt pc 29 then (bif Nat.beq pc 28 then J_iconst 1 29 else jbad) else (bif Nat.beq pc 29 then J_zreturn 0 0 else jbad)))))
theorem ftl_X4_allCharged_11 : F_X4_allCharged_11 11 = J_callV 4 S_X4_get 2 14 := rfl
theorem ftl_X4_allCharged_14 : F_X4_allCharged_11 14 = J_callV 4 S_X4_restOf 1 17 := rfl
theorem ftl_X4_allCharged_17 : F_X4_allCharged_11 17 = J_ifle 22 20 := rfl
theorem ftl_X4_allCharged_20 : F_X4_allCharged_11 20 = J_iconst 0 21 := rfl
theorem ftl_X4_allCharged_21 : F_X4_allCharged_11 21 = J_zreturn 0 0 := rfl
theorem ftl_X4_allCharged_22 : F_X4_allCharged_11 22 = J_iinc 1 1 25 := rfl
theorem ftl_X4_allCharged_25 : F_X4_allCharged_11 25 = J_goto 2 := rfl
theorem ftl_X4_allCharged_28 : F_X4_allCharged_11 28 = J_iconst 1 29 := rfl
theorem ftl_X4_allCharged_29 : F_X4_allCharged_11 29 = J_zreturn 0 0 := rfl
theorem F_X4_allCharged_11_ok : jOK Y_X4_allCharged none (F_X4_allCharged_11) := (jOK_node (jOK_node (jOK_node (jOK_leaf (sn_callV (Y' := Y_X4_get) ok_X4_get dX4_allCharged_11 rfl rfl rfl tw_266 tw_267 tw_268 tw_5 jc_X4_get rfl ⟨by decide, by decide, rfl⟩ ⟨by decide, by decide⟩)) (jOK_leaf (sn_callV (Y' := Y_X4_restOf) ok_X4_restOf dX4_allCharged_14 rfl rfl rfl tw_278 tw_279 tw_280 tw_5 jc_X4_restOf rfl ⟨by decide, by decide, rfl⟩ ⟨by decide, by decide⟩))) (jOK_node (jOK_leaf (sn_ifle dX4_allCharged_17 rfl rfl)) (jOK_leaf (sn_iconst dX4_allCharged_20 rfl rfl)))) (jOK_node (jOK_node (jOK_leaf (sn_zreturn dX4_allCharged_21 rfl rfl)) (jOK_leaf (sn_iinc dX4_allCharged_22 rfl rfl (by decide)))) (jOK_node (jOK_leaf (sn_goto dX4_allCharged_25 rfl)) (jOK_node (jOK_leaf (sn_iconst dX4_allCharged_28 rfl rfl)) (jOK_leaf (sn_zreturn dX4_allCharged_29 rfl rfl))))))
def F_X4_allCharged_0_29 : Nat → jT := fun pc => bif Nat.blt pc 11 then F_X4_allCharged_0 pc else F_X4_allCharged_11 pc
theorem F_X4_allCharged_0_29_ok : jOK Y_X4_allCharged none (F_X4_allCharged_0_29) := jOK_node (F_X4_allCharged_0_ok) (F_X4_allCharged_11_ok)
def F_X4_allCharged : Nat → jT := F_X4_allCharged_0_29
theorem OK_X4_allCharged : jOK Y_X4_allCharged none (F_X4_allCharged) := F_X4_allCharged_0_29_ok
theorem ft_X4_allCharged_0 : F_X4_allCharged 0 = J_iconst 0 1 := ftl_X4_allCharged_0
theorem ft_X4_allCharged_1 : F_X4_allCharged 1 = J_istore 1 2 := ftl_X4_allCharged_1
theorem ft_X4_allCharged_2 : F_X4_allCharged 2 = J_iload 1 3 := ftl_X4_allCharged_2
theorem ft_X4_allCharged_3 : F_X4_allCharged 3 = J_iconst 4 4 := ftl_X4_allCharged_3
theorem ft_X4_allCharged_4 : F_X4_allCharged 4 = J_icge 28 7 := ftl_X4_allCharged_4
theorem ft_X4_allCharged_7 : F_X4_allCharged 7 = J_aload 0 8 := ftl_X4_allCharged_7
theorem ft_X4_allCharged_8 : F_X4_allCharged 8 = J_aload 0 9 := ftl_X4_allCharged_8
theorem ft_X4_allCharged_9 : F_X4_allCharged 9 = J_iload 1 10 := ftl_X4_allCharged_9
theorem ft_X4_allCharged_10 : F_X4_allCharged 10 = J_iconst 1 11 := ftl_X4_allCharged_10
theorem ft_X4_allCharged_11 : F_X4_allCharged 11 = J_callV 4 S_X4_get 2 14 := ftl_X4_allCharged_11
theorem ft_X4_allCharged_14 : F_X4_allCharged 14 = J_callV 4 S_X4_restOf 1 17 := ftl_X4_allCharged_14
theorem ft_X4_allCharged_17 : F_X4_allCharged 17 = J_ifle 22 20 := ftl_X4_allCharged_17
theorem ft_X4_allCharged_20 : F_X4_allCharged 20 = J_iconst 0 21 := ftl_X4_allCharged_20
theorem ft_X4_allCharged_21 : F_X4_allCharged 21 = J_zreturn 0 0 := ftl_X4_allCharged_21
theorem ft_X4_allCharged_22 : F_X4_allCharged 22 = J_iinc 1 1 25 := ftl_X4_allCharged_22
theorem ft_X4_allCharged_25 : F_X4_allCharged 25 = J_goto 2 := ftl_X4_allCharged_25
theorem ft_X4_allCharged_28 : F_X4_allCharged 28 = J_iconst 1 29 := ftl_X4_allCharged_28
theorem ft_X4_allCharged_29 : F_X4_allCharged 29 = J_zreturn 0 0 := ftl_X4_allCharged_29
def S_X4_allCharged : jSp := fun nb vs mem Q => jcs vs ≤ 2 ∧ jrun F_X4_allCharged [] 100 Q (fun _ _ _ _ _ => False) 0 (jargs vs ++ [none]) [] mem (nb, 0, 0)
theorem ok_X4_allCharged : jMeets Y_X4_allCharged S_X4_allCharged := fun _ _ _ _ h => Ok.inl OK_X4_allCharged 100 [none] pn4 rfl h
theorem s_X4_allCharged {nb d s : Nat} {C : Nat → Nat → Int32} {z : Nat → Int64} {Q : jQ} (h : jSt s d) : S_X4_allCharged nb [.ref s] (memS d C z) Q = Q (some (.int (zb (rrest (C s) (C s 0) ≤ 0 ∧ rrest (C s) (C s 1) ≤ 0 ∧ rrest (C s) (C s 2) ≤ 0 ∧ rrest (C s) (C s 3) ≤ 0)))) (memS d C z) := by
  refine (eq_le rfl).trans ?_
  simp -implicitDefEqProofs only [jr_0, jr_1, jr_2, j_iconst, j_lconst, j_iload0, j_aload0, j_istore0, j_astore0, j_iinc0, j_iload1, j_aload1, j_istore1, j_astore1, j_iinc1, j_iload2, j_aload2, j_istore2, j_astore2, j_iinc2, j_iload3, j_aload3, j_istore3, j_astore3, j_iinc3, j_iload4, j_aload4, j_istore4, j_astore4, j_iinc4, j_iload5, j_aload5, j_istore5, j_astore5, j_iinc5, j_iload6, j_aload6, j_istore6, j_astore6, j_iinc6, j_iload7, j_aload7, j_istore7, j_astore7, j_iinc7, j_iload8, j_aload8, j_istore8, j_astore8, j_iinc8, j_iadd, j_isub, j_imul, j_iand, j_ior, j_ixor, j_ishl, j_ishr, j_iushr, j_idiv, j_irem, j_ineg, j_ladd, j_lmul, j_land, j_lor, j_lcmp, j_lushr, j_lshl, j_i2l, j_l2i, j_dupI, j_dupR, j_popI, j_dup2, j_ifeq, j_iceq, j_ifne, j_icne, j_iflt, j_iclt, j_ifge, j_icge, j_ifgt, j_icgt, j_ifle, j_icle, j_goto, j_tsw, j_sw0, j_sw1, j_ireturn, j_zreturn, j_lreturn, j_return, j_getfield, j_putI, j_putJ, j_putR, j_iaload, j_baload, j_iastore, j_bastore, j_aaload, j_q, j_aastore, j_acopy, j_mmin, j_mmax, j_mabs, j_objinit, j_new, j_newI, j_newQ, j_sld, j_slen, j_callV0, j_callI0, j_callS0, j_callV1, j_callI1, j_callS1, j_callV2, j_callI2, j_callS2, j_callV3, j_callS3, j_callV4, j_callS4, j_callV5, j_callS5, j_pushS, j_pushN, j_sh0, j_sh1, j_sh2, j_sh3, j_sh4, Int32.reduceAdd, Int32.reduceMul, Int32.reduceSub, Int32.reduceLT, Int32.reduceLE, eq_self, i32_10, i32_01, ne_eq, hrow_s, hrow_n, ne10, ne100, ne1000, ne7, ne4, ne14, ne9973, or_true, true_or, or_false, false_or, not_true_eq_false, not_false_eq_true, false_implies, implies_true, and_true, forall_const, true_implies, jargs_n, jargs_r, jargs_i, List.cons_append, List.nil_append, true_and, Nat.reduceEqDiff, reduceIte, ft_X4_allCharged_0, ft_X4_allCharged_1, ft_X4_allCharged_2, ft_X4_allCharged_3, ft_X4_allCharged_4, ft_X4_allCharged_7, ft_X4_allCharged_8, ft_X4_allCharged_9, ft_X4_allCharged_10, ft_X4_allCharged_11, ft_X4_allCharged_14, ft_X4_allCharged_17, ft_X4_allCharged_20, ft_X4_allCharged_21, ft_X4_allCharged_22, ft_X4_allCharged_25, ft_X4_allCharged_28, ft_X4_allCharged_29, jrcv_st h, s_X4_get h, s_X4_restOf h, rg_0_1, rg_0_2, rg_0_3, rg_0_4, rg_0_5, rg_0_6, rg_0_7, rg_0_8, rg_1_1, rg_1_2, rg_1_3, rg_1_4, rg_1_5, rg_1_6, rg_1_7, rg_1_8, rg_2_1, rg_2_2, rg_2_3, rg_2_4, rg_2_5, rg_2_6, rg_2_7, rg_2_8, rg_3_1, rg_3_2, rg_3_3, rg_3_4, rg_3_5, rg_3_6, rg_3_7, rg_3_8]
  grind [zb]
def postsInF (ρ : Nat → Int32) (v : Int32) : Int32 := orF (ρ 7 = v) (orF (ρ 6 = v) (orF (ρ 5 = v) (orF (ρ 4 = v) 0 1) 2) 4) 8
def F_X4_postsIn_0 : Nat → jT := fun pc => (bif Nat.blt pc 5 then (bif Nat.blt pc 2 then (bif Nat.blt pc 1 then (bif Nat.beq pc 0 then J_iconst 0 1 else jbad) else (bif Nat.beq pc 1 then J_istore 2 2 else jbad)) else (bif Nat.blt pc 3 then (bif Nat.beq pc 2 then J_iconst 0 3 else jbad) else (bif Nat.blt pc 4 then (bif Nat.beq pc 3 then J_istore 3 4 else jbad) else (bif Nat.beq pc 4 then J_iload 3 5 else jbad)))) else (bif Nat.blt pc 10 then (bif Nat.blt pc 6 then (bif Nat.beq pc 5 then J_iconst 4 6 else jbad) else (bif Nat.blt pc 9 then (bif Nat.beq pc 6 then J_icge 31 9 else jbad) else (bif Nat.beq pc 9 then J_aload 0 10 else jbad))) else (bif Nat.blt pc 11 then (bif Nat.beq pc 10 then J_iload 3 11 else jbad) else (bif Nat.blt pc 12 then (bif Nat.beq pc 11 then J_iconst 2 12 else jbad) else (bif Nat.beq pc 12 then J_callV 4 S_X4_get 2 15 else jbad)))))
theorem ftl_X4_postsIn_0 : F_X4_postsIn_0 0 = J_iconst 0 1 := rfl
theorem ftl_X4_postsIn_1 : F_X4_postsIn_0 1 = J_istore 2 2 := rfl
theorem ftl_X4_postsIn_2 : F_X4_postsIn_0 2 = J_iconst 0 3 := rfl
theorem ftl_X4_postsIn_3 : F_X4_postsIn_0 3 = J_istore 3 4 := rfl
theorem ftl_X4_postsIn_4 : F_X4_postsIn_0 4 = J_iload 3 5 := rfl
theorem ftl_X4_postsIn_5 : F_X4_postsIn_0 5 = J_iconst 4 6 := rfl
theorem ftl_X4_postsIn_6 : F_X4_postsIn_0 6 = J_icge 31 9 := rfl
theorem ftl_X4_postsIn_9 : F_X4_postsIn_0 9 = J_aload 0 10 := rfl
theorem ftl_X4_postsIn_10 : F_X4_postsIn_0 10 = J_iload 3 11 := rfl
theorem ftl_X4_postsIn_11 : F_X4_postsIn_0 11 = J_iconst 2 12 := rfl
theorem ftl_X4_postsIn_12 : F_X4_postsIn_0 12 = J_callV 4 S_X4_get 2 15 := rfl
theorem F_X4_postsIn_0_ok : jOK Y_X4_postsIn none (F_X4_postsIn_0) := (jOK_node (jOK_node (jOK_node (jOK_leaf (sn_iconst dX4_postsIn_0 rfl rfl)) (jOK_leaf (sn_istore_n dX4_postsIn_1 rfl rfl (by decide)))) (jOK_node (jOK_leaf (sn_iconst dX4_postsIn_2 rfl rfl)) (jOK_node (jOK_leaf (sn_istore_n dX4_postsIn_3 rfl rfl (by decide))) (jOK_leaf (sn_iload_n dX4_postsIn_4 rfl rfl))))) (jOK_node (jOK_node (jOK_leaf (sn_iconst dX4_postsIn_5 rfl rfl)) (jOK_node (jOK_leaf (sn_icge dX4_postsIn_6 rfl rfl)) (jOK_leaf (sn_aload_n dX4_postsIn_9 rfl rfl)))) (jOK_node (jOK_leaf (sn_iload_n dX4_postsIn_10 rfl rfl)) (jOK_node (jOK_leaf (sn_iconst dX4_postsIn_11 rfl rfl)) (jOK_leaf (sn_callV (Y' := Y_X4_get) ok_X4_get dX4_postsIn_12 rfl rfl rfl tw_266 tw_267 tw_268 tw_5 jc_X4_get rfl ⟨by decide, by decide, rfl⟩ ⟨by decide, by decide⟩))))))
def F_X4_postsIn_15 : Nat → jT := fun pc => (bif Nat.blt pc 23 then (bif Nat.blt pc 20 then (bif Nat.blt pc 16 then (bif Nat.beq pc 15 then J_iload 1 16 else jbad) else (bif Nat.blt pc 19 then (bif Nat.beq pc 16 then J_icne 25 19 else jbad) else (bif Nat.beq pc 19 then J_iload 2 20 else jbad))) else (bif Nat.blt pc 21 then (bif Nat.beq pc 20 then J_iconst 1 21 else jbad) else (bif Nat.blt pc 22 then (bif Nat.beq pc 21 then J_iload 3 22 else jbad) else (bif Nat.beq pc 22 then J_ishl 23 else jbad)))) else (bif Nat.blt pc 28 then (bif Nat.blt pc 24 then (bif Nat.beq pc 23 then J_ior 24 else jbad) else (bif Nat.blt pc 25 then (bif Nat.beq pc 24 then J_istore 2 25 else jbad) else (bif Nat.beq pc 25 then J_iinc 3 1 28 else jbad))) else (bif Nat.blt pc 31 then (bif Nat.beq pc 28 then J_goto 4 else jbad) else (bif Nat.blt pc 32 then (bif Nat.beq pc 31 then J_iload 2 32 else jbad) else (bif Nat.beq pc 32 then J_ireturn 0 0 else jbad)))))
theorem ftl_X4_postsIn_15 : F_X4_postsIn_15 15 = J_iload 1 16 := rfl
theorem ftl_X4_postsIn_16 : F_X4_postsIn_15 16 = J_icne 25 19 := rfl
theorem ftl_X4_postsIn_19 : F_X4_postsIn_15 19 = J_iload 2 20 := rfl
theorem ftl_X4_postsIn_20 : F_X4_postsIn_15 20 = J_iconst 1 21 := rfl
theorem ftl_X4_postsIn_21 : F_X4_postsIn_15 21 = J_iload 3 22 := rfl
theorem ftl_X4_postsIn_22 : F_X4_postsIn_15 22 = J_ishl 23 := rfl
theorem ftl_X4_postsIn_23 : F_X4_postsIn_15 23 = J_ior 24 := rfl
theorem ftl_X4_postsIn_24 : F_X4_postsIn_15 24 = J_istore 2 25 := rfl
theorem ftl_X4_postsIn_25 : F_X4_postsIn_15 25 = J_iinc 3 1 28 := rfl
theorem ftl_X4_postsIn_28 : F_X4_postsIn_15 28 = J_goto 4 := rfl
theorem ftl_X4_postsIn_31 : F_X4_postsIn_15 31 = J_iload 2 32 := rfl
theorem ftl_X4_postsIn_32 : F_X4_postsIn_15 32 = J_ireturn 0 0 := rfl
theorem F_X4_postsIn_15_ok : jOK Y_X4_postsIn none (F_X4_postsIn_15) := (jOK_node (jOK_node (jOK_node (jOK_leaf (sn_iload_n dX4_postsIn_15 rfl rfl)) (jOK_node (jOK_leaf (sn_icne dX4_postsIn_16 rfl rfl)) (jOK_leaf (sn_iload_n dX4_postsIn_19 rfl rfl)))) (jOK_node (jOK_leaf (sn_iconst dX4_postsIn_20 rfl rfl)) (jOK_node (jOK_leaf (sn_iload_n dX4_postsIn_21 rfl rfl)) (jOK_leaf (sn_ishl dX4_postsIn_22 rfl))))) (jOK_node (jOK_node (jOK_leaf (sn_ior dX4_postsIn_23 rfl)) (jOK_node (jOK_leaf (sn_istore_n dX4_postsIn_24 rfl rfl (by decide))) (jOK_leaf (sn_iinc dX4_postsIn_25 rfl rfl (by decide))))) (jOK_node (jOK_leaf (sn_goto dX4_postsIn_28 rfl)) (jOK_node (jOK_leaf (sn_iload_n dX4_postsIn_31 rfl rfl)) (jOK_leaf (sn_ireturn dX4_postsIn_32 rfl rfl))))))
def F_X4_postsIn_0_32 : Nat → jT := fun pc => bif Nat.blt pc 15 then F_X4_postsIn_0 pc else F_X4_postsIn_15 pc
theorem F_X4_postsIn_0_32_ok : jOK Y_X4_postsIn none (F_X4_postsIn_0_32) := jOK_node (F_X4_postsIn_0_ok) (F_X4_postsIn_15_ok)
def F_X4_postsIn : Nat → jT := F_X4_postsIn_0_32
theorem OK_X4_postsIn : jOK Y_X4_postsIn none (F_X4_postsIn) := F_X4_postsIn_0_32_ok
theorem ft_X4_postsIn_0 : F_X4_postsIn 0 = J_iconst 0 1 := ftl_X4_postsIn_0
theorem ft_X4_postsIn_1 : F_X4_postsIn 1 = J_istore 2 2 := ftl_X4_postsIn_1
theorem ft_X4_postsIn_2 : F_X4_postsIn 2 = J_iconst 0 3 := ftl_X4_postsIn_2
theorem ft_X4_postsIn_3 : F_X4_postsIn 3 = J_istore 3 4 := ftl_X4_postsIn_3
theorem ft_X4_postsIn_4 : F_X4_postsIn 4 = J_iload 3 5 := ftl_X4_postsIn_4
theorem ft_X4_postsIn_5 : F_X4_postsIn 5 = J_iconst 4 6 := ftl_X4_postsIn_5
theorem ft_X4_postsIn_6 : F_X4_postsIn 6 = J_icge 31 9 := ftl_X4_postsIn_6
theorem ft_X4_postsIn_9 : F_X4_postsIn 9 = J_aload 0 10 := ftl_X4_postsIn_9
theorem ft_X4_postsIn_10 : F_X4_postsIn 10 = J_iload 3 11 := ftl_X4_postsIn_10
theorem ft_X4_postsIn_11 : F_X4_postsIn 11 = J_iconst 2 12 := ftl_X4_postsIn_11
theorem ft_X4_postsIn_12 : F_X4_postsIn 12 = J_callV 4 S_X4_get 2 15 := ftl_X4_postsIn_12
theorem ft_X4_postsIn_15 : F_X4_postsIn 15 = J_iload 1 16 := ftl_X4_postsIn_15
theorem ft_X4_postsIn_16 : F_X4_postsIn 16 = J_icne 25 19 := ftl_X4_postsIn_16
theorem ft_X4_postsIn_19 : F_X4_postsIn 19 = J_iload 2 20 := ftl_X4_postsIn_19
theorem ft_X4_postsIn_20 : F_X4_postsIn 20 = J_iconst 1 21 := ftl_X4_postsIn_20
theorem ft_X4_postsIn_21 : F_X4_postsIn 21 = J_iload 3 22 := ftl_X4_postsIn_21
theorem ft_X4_postsIn_22 : F_X4_postsIn 22 = J_ishl 23 := ftl_X4_postsIn_22
theorem ft_X4_postsIn_23 : F_X4_postsIn 23 = J_ior 24 := ftl_X4_postsIn_23
theorem ft_X4_postsIn_24 : F_X4_postsIn 24 = J_istore 2 25 := ftl_X4_postsIn_24
theorem ft_X4_postsIn_25 : F_X4_postsIn 25 = J_iinc 3 1 28 := ftl_X4_postsIn_25
theorem ft_X4_postsIn_28 : F_X4_postsIn 28 = J_goto 4 := ftl_X4_postsIn_28
theorem ft_X4_postsIn_31 : F_X4_postsIn 31 = J_iload 2 32 := ftl_X4_postsIn_31
theorem ft_X4_postsIn_32 : F_X4_postsIn 32 = J_ireturn 0 0 := ftl_X4_postsIn_32
def S_X4_postsIn : jSp := fun nb vs mem Q => jcs vs ≤ 4 ∧ jrun F_X4_postsIn [] 120 Q (fun _ _ _ _ _ => False) 0 (jargs vs ++ [none, none]) [] mem (nb, 0, 0)
theorem ok_X4_postsIn : jMeets Y_X4_postsIn S_X4_postsIn := fun _ _ _ _ h => Ok.inl OK_X4_postsIn 120 [none, none] pn4 rfl h
theorem s_X4_postsIn {nb d s : Nat} {C : Nat → Nat → Int32} {z : Nat → Int64} {v : Int32} {Q : jQ} (h : jSt s d) : S_X4_postsIn nb [.ref s, .int v] (memS d C z) Q = Q (some (.int (postsInF (C s) v))) (memS d C z) := by
  refine (eq_le rfl).trans ?_
  simp -implicitDefEqProofs only [jr_0, jr_1, jr_2, j_iconst, j_lconst, j_iload0, j_aload0, j_istore0, j_astore0, j_iinc0, j_iload1, j_aload1, j_istore1, j_astore1, j_iinc1, j_iload2, j_aload2, j_istore2, j_astore2, j_iinc2, j_iload3, j_aload3, j_istore3, j_astore3, j_iinc3, j_iload4, j_aload4, j_istore4, j_astore4, j_iinc4, j_iload5, j_aload5, j_istore5, j_astore5, j_iinc5, j_iload6, j_aload6, j_istore6, j_astore6, j_iinc6, j_iload7, j_aload7, j_istore7, j_astore7, j_iinc7, j_iload8, j_aload8, j_istore8, j_astore8, j_iinc8, j_iadd, j_isub, j_imul, j_iand, j_ior, j_ixor, j_ishl, j_ishr, j_iushr, j_idiv, j_irem, j_ineg, j_ladd, j_lmul, j_land, j_lor, j_lcmp, j_lushr, j_lshl, j_i2l, j_l2i, j_dupI, j_dupR, j_popI, j_dup2, j_ifeq, j_iceq, j_ifne, j_icne, j_iflt, j_iclt, j_ifge, j_icge, j_ifgt, j_icgt, j_ifle, j_icle, j_goto, j_tsw, j_sw0, j_sw1, j_ireturn, j_zreturn, j_lreturn, j_return, j_getfield, j_putI, j_putJ, j_putR, j_iaload, j_baload, j_iastore, j_bastore, j_aaload, j_q, j_aastore, j_acopy, j_mmin, j_mmax, j_mabs, j_objinit, j_new, j_newI, j_newQ, j_sld, j_slen, j_callV0, j_callI0, j_callS0, j_callV1, j_callI1, j_callS1, j_callV2, j_callI2, j_callS2, j_callV3, j_callS3, j_callV4, j_callS4, j_callV5, j_callS5, j_pushS, j_pushN, j_sh0, j_sh1, j_sh2, j_sh3, j_sh4, Int32.reduceAdd, Int32.reduceMul, Int32.reduceSub, Int32.reduceLT, Int32.reduceLE, eq_self, i32_10, i32_01, ne_eq, hrow_s, hrow_n, ne10, ne100, ne1000, ne7, ne4, ne14, ne9973, or_true, true_or, or_false, false_or, not_true_eq_false, not_false_eq_true, false_implies, implies_true, and_true, forall_const, true_implies, jargs_n, jargs_r, jargs_i, List.cons_append, List.nil_append, true_and, Nat.reduceEqDiff, reduceIte, ft_X4_postsIn_0, ft_X4_postsIn_1, ft_X4_postsIn_2, ft_X4_postsIn_3, ft_X4_postsIn_4, ft_X4_postsIn_5, ft_X4_postsIn_6, ft_X4_postsIn_9, ft_X4_postsIn_10, ft_X4_postsIn_11, ft_X4_postsIn_12, ft_X4_postsIn_15, ft_X4_postsIn_16, ft_X4_postsIn_19, ft_X4_postsIn_20, ft_X4_postsIn_21, ft_X4_postsIn_22, ft_X4_postsIn_23, ft_X4_postsIn_24, ft_X4_postsIn_25, ft_X4_postsIn_28, ft_X4_postsIn_31, ft_X4_postsIn_32, jrcv_st h, s_X4_get h, rg_0_1, rg_0_2, rg_0_3, rg_0_4, rg_0_5, rg_0_6, rg_0_7, rg_0_8, rg_1_1, rg_1_2, rg_1_3, rg_1_4, rg_1_5, rg_1_6, rg_1_7, rg_1_8, rg_2_1, rg_2_2, rg_2_3, rg_2_4, rg_2_5, rg_2_6, rg_2_7, rg_2_8, rg_3_1, rg_3_2, rg_3_3, rg_3_4, rg_3_5, rg_3_6, rg_3_7, rg_3_8, shl_0, shl_1, shl_2, shl_3]
  by_cases g0 : C s 4 = v <;> by_cases g1 : C s 5 = v <;> by_cases g2 : C s 6 = v <;> by_cases g3 : C s 7 = v <;> simp [postsInF, orF, g0, g1, g2, g3]
def metersF (ρ : Nat → Int32) : Int32 := 0 + ρ 24 + ρ 25 + ρ 26 + ρ 27
def F_X4_meters_0 : Nat → jT := fun pc => (bif Nat.blt pc 4 then (bif Nat.blt pc 2 then (bif Nat.blt pc 1 then (bif Nat.beq pc 0 then J_iconst 0 1 else jbad) else (bif Nat.beq pc 1 then J_istore 1 2 else jbad)) else (bif Nat.blt pc 3 then (bif Nat.beq pc 2 then J_iconst 0 3 else jbad) else (bif Nat.beq pc 3 then J_istore 2 4 else jbad))) else (bif Nat.blt pc 6 then (bif Nat.blt pc 5 then (bif Nat.beq pc 4 then J_iload 2 5 else jbad) else (bif Nat.beq pc 5 then J_iconst 4 6 else jbad)) else (bif Nat.blt pc 9 then (bif Nat.beq pc 6 then J_icge 25 9 else jbad) else (bif Nat.blt pc 10 then (bif Nat.beq pc 9 then J_iload 1 10 else jbad) else (bif Nat.beq pc 10 then J_aload 0 11 else jbad)))))
theorem ftl_X4_meters_0 : F_X4_meters_0 0 = J_iconst 0 1 := rfl
theorem ftl_X4_meters_1 : F_X4_meters_0 1 = J_istore 1 2 := rfl
theorem ftl_X4_meters_2 : F_X4_meters_0 2 = J_iconst 0 3 := rfl
theorem ftl_X4_meters_3 : F_X4_meters_0 3 = J_istore 2 4 := rfl
theorem ftl_X4_meters_4 : F_X4_meters_0 4 = J_iload 2 5 := rfl
theorem ftl_X4_meters_5 : F_X4_meters_0 5 = J_iconst 4 6 := rfl
theorem ftl_X4_meters_6 : F_X4_meters_0 6 = J_icge 25 9 := rfl
theorem ftl_X4_meters_9 : F_X4_meters_0 9 = J_iload 1 10 := rfl
theorem ftl_X4_meters_10 : F_X4_meters_0 10 = J_aload 0 11 := rfl
theorem F_X4_meters_0_ok : jOK Y_X4_meters none (F_X4_meters_0) := (jOK_node (jOK_node (jOK_node (jOK_leaf (sn_iconst dX4_meters_0 rfl rfl)) (jOK_leaf (sn_istore_n dX4_meters_1 rfl rfl (by decide)))) (jOK_node (jOK_leaf (sn_iconst dX4_meters_2 rfl rfl)) (jOK_leaf (sn_istore_n dX4_meters_3 rfl rfl (by decide))))) (jOK_node (jOK_node (jOK_leaf (sn_iload_n dX4_meters_4 rfl rfl)) (jOK_leaf (sn_iconst dX4_meters_5 rfl rfl))) (jOK_node (jOK_leaf (sn_icge dX4_meters_6 rfl rfl)) (jOK_node (jOK_leaf (sn_iload_n dX4_meters_9 rfl rfl)) (jOK_leaf (sn_aload_n dX4_meters_10 rfl rfl))))))
def F_X4_meters_11 : Nat → jT := fun pc => (bif Nat.blt pc 18 then (bif Nat.blt pc 14 then (bif Nat.blt pc 12 then (bif Nat.beq pc 11 then J_iload 2 12 else jbad) else (bif Nat.beq pc 12 then J_iconst 7 14 else jbad)) else (bif Nat.blt pc 17 then (bif Nat.beq pc 14 then J_callV 4 S_X4_get 2 17 else jbad) else (bif Nat.beq pc 17 then J_iadd 18 else jbad))) else (bif Nat.blt pc 22 then (bif Nat.blt pc 19 then (bif Nat.beq pc 18 then J_istore 1 19 else jbad) else (bif Nat.beq pc 19 then J_iinc 2 1 22 else jbad)) else (bif Nat.blt pc 25 then (bif Nat.beq pc 22 then J_goto 4 else jbad) else (bif Nat.blt pc 26 then (bif Nat.beq pc 25 then J_iload 1 26 else jbad) else (bif Nat.beq pc 26 then J_ireturn 0 0 else jbad)))))
theorem ftl_X4_meters_11 : F_X4_meters_11 11 = J_iload 2 12 := rfl
theorem ftl_X4_meters_12 : F_X4_meters_11 12 = J_iconst 7 14 := rfl
theorem ftl_X4_meters_14 : F_X4_meters_11 14 = J_callV 4 S_X4_get 2 17 := rfl
theorem ftl_X4_meters_17 : F_X4_meters_11 17 = J_iadd 18 := rfl
theorem ftl_X4_meters_18 : F_X4_meters_11 18 = J_istore 1 19 := rfl
theorem ftl_X4_meters_19 : F_X4_meters_11 19 = J_iinc 2 1 22 := rfl
theorem ftl_X4_meters_22 : F_X4_meters_11 22 = J_goto 4 := rfl
theorem ftl_X4_meters_25 : F_X4_meters_11 25 = J_iload 1 26 := rfl
theorem ftl_X4_meters_26 : F_X4_meters_11 26 = J_ireturn 0 0 := rfl
theorem F_X4_meters_11_ok : jOK Y_X4_meters none (F_X4_meters_11) := (jOK_node (jOK_node (jOK_node (jOK_leaf (sn_iload_n dX4_meters_11 rfl rfl)) (jOK_leaf (sn_bipush dX4_meters_12 rfl rfl))) (jOK_node (jOK_leaf (sn_callV (Y' := Y_X4_get) ok_X4_get dX4_meters_14 rfl rfl rfl tw_266 tw_267 tw_268 tw_5 jc_X4_get rfl ⟨by decide, by decide, rfl⟩ ⟨by decide, by decide⟩)) (jOK_leaf (sn_iadd dX4_meters_17 rfl)))) (jOK_node (jOK_node (jOK_leaf (sn_istore_n dX4_meters_18 rfl rfl (by decide))) (jOK_leaf (sn_iinc dX4_meters_19 rfl rfl (by decide)))) (jOK_node (jOK_leaf (sn_goto dX4_meters_22 rfl)) (jOK_node (jOK_leaf (sn_iload_n dX4_meters_25 rfl rfl)) (jOK_leaf (sn_ireturn dX4_meters_26 rfl rfl))))))
def F_X4_meters_0_26 : Nat → jT := fun pc => bif Nat.blt pc 11 then F_X4_meters_0 pc else F_X4_meters_11 pc
theorem F_X4_meters_0_26_ok : jOK Y_X4_meters none (F_X4_meters_0_26) := jOK_node (F_X4_meters_0_ok) (F_X4_meters_11_ok)
def F_X4_meters : Nat → jT := F_X4_meters_0_26
theorem OK_X4_meters : jOK Y_X4_meters none (F_X4_meters) := F_X4_meters_0_26_ok
theorem ft_X4_meters_0 : F_X4_meters 0 = J_iconst 0 1 := ftl_X4_meters_0
theorem ft_X4_meters_1 : F_X4_meters 1 = J_istore 1 2 := ftl_X4_meters_1
theorem ft_X4_meters_2 : F_X4_meters 2 = J_iconst 0 3 := ftl_X4_meters_2
theorem ft_X4_meters_3 : F_X4_meters 3 = J_istore 2 4 := ftl_X4_meters_3
theorem ft_X4_meters_4 : F_X4_meters 4 = J_iload 2 5 := ftl_X4_meters_4
theorem ft_X4_meters_5 : F_X4_meters 5 = J_iconst 4 6 := ftl_X4_meters_5
theorem ft_X4_meters_6 : F_X4_meters 6 = J_icge 25 9 := ftl_X4_meters_6
theorem ft_X4_meters_9 : F_X4_meters 9 = J_iload 1 10 := ftl_X4_meters_9
theorem ft_X4_meters_10 : F_X4_meters 10 = J_aload 0 11 := ftl_X4_meters_10
theorem ft_X4_meters_11 : F_X4_meters 11 = J_iload 2 12 := ftl_X4_meters_11
theorem ft_X4_meters_12 : F_X4_meters 12 = J_iconst 7 14 := ftl_X4_meters_12
theorem ft_X4_meters_14 : F_X4_meters 14 = J_callV 4 S_X4_get 2 17 := ftl_X4_meters_14
theorem ft_X4_meters_17 : F_X4_meters 17 = J_iadd 18 := ftl_X4_meters_17
theorem ft_X4_meters_18 : F_X4_meters 18 = J_istore 1 19 := ftl_X4_meters_18
theorem ft_X4_meters_19 : F_X4_meters 19 = J_iinc 2 1 22 := ftl_X4_meters_19
theorem ft_X4_meters_22 : F_X4_meters 22 = J_goto 4 := ftl_X4_meters_22
theorem ft_X4_meters_25 : F_X4_meters 25 = J_iload 1 26 := ftl_X4_meters_25
theorem ft_X4_meters_26 : F_X4_meters 26 = J_ireturn 0 0 := ftl_X4_meters_26
def S_X4_meters : jSp := fun nb vs mem Q => jcs vs ≤ 3 ∧ jrun F_X4_meters [] 100 Q (fun _ _ _ _ _ => False) 0 (jargs vs ++ [none, none]) [] mem (nb, 0, 0)
theorem ok_X4_meters : jMeets Y_X4_meters S_X4_meters := fun _ _ _ _ h => Ok.inl OK_X4_meters 100 [none, none] pn4 rfl h
theorem s_X4_meters {nb d s : Nat} {C : Nat → Nat → Int32} {z : Nat → Int64} {Q : jQ} (h : jSt s d) : S_X4_meters nb [.ref s] (memS d C z) Q = Q (some (.int (metersF (C s)))) (memS d C z) := by
  refine (eq_le rfl).trans ?_
  simp -implicitDefEqProofs only [jr_0, jr_1, jr_2, j_iconst, j_lconst, j_iload0, j_aload0, j_istore0, j_astore0, j_iinc0, j_iload1, j_aload1, j_istore1, j_astore1, j_iinc1, j_iload2, j_aload2, j_istore2, j_astore2, j_iinc2, j_iload3, j_aload3, j_istore3, j_astore3, j_iinc3, j_iload4, j_aload4, j_istore4, j_astore4, j_iinc4, j_iload5, j_aload5, j_istore5, j_astore5, j_iinc5, j_iload6, j_aload6, j_istore6, j_astore6, j_iinc6, j_iload7, j_aload7, j_istore7, j_astore7, j_iinc7, j_iload8, j_aload8, j_istore8, j_astore8, j_iinc8, j_iadd, j_isub, j_imul, j_iand, j_ior, j_ixor, j_ishl, j_ishr, j_iushr, j_idiv, j_irem, j_ineg, j_ladd, j_lmul, j_land, j_lor, j_lcmp, j_lushr, j_lshl, j_i2l, j_l2i, j_dupI, j_dupR, j_popI, j_dup2, j_ifeq, j_iceq, j_ifne, j_icne, j_iflt, j_iclt, j_ifge, j_icge, j_ifgt, j_icgt, j_ifle, j_icle, j_goto, j_tsw, j_sw0, j_sw1, j_ireturn, j_zreturn, j_lreturn, j_return, j_getfield, j_putI, j_putJ, j_putR, j_iaload, j_baload, j_iastore, j_bastore, j_aaload, j_q, j_aastore, j_acopy, j_mmin, j_mmax, j_mabs, j_objinit, j_new, j_newI, j_newQ, j_sld, j_slen, j_callV0, j_callI0, j_callS0, j_callV1, j_callI1, j_callS1, j_callV2, j_callI2, j_callS2, j_callV3, j_callS3, j_callV4, j_callS4, j_callV5, j_callS5, j_pushS, j_pushN, j_sh0, j_sh1, j_sh2, j_sh3, j_sh4, Int32.reduceAdd, Int32.reduceMul, Int32.reduceSub, Int32.reduceLT, Int32.reduceLE, eq_self, i32_10, i32_01, ne_eq, hrow_s, hrow_n, ne10, ne100, ne1000, ne7, ne4, ne14, ne9973, or_true, true_or, or_false, false_or, not_true_eq_false, not_false_eq_true, false_implies, implies_true, and_true, forall_const, true_implies, jargs_n, jargs_r, jargs_i, List.cons_append, List.nil_append, true_and, Nat.reduceEqDiff, reduceIte, ft_X4_meters_0, ft_X4_meters_1, ft_X4_meters_2, ft_X4_meters_3, ft_X4_meters_4, ft_X4_meters_5, ft_X4_meters_6, ft_X4_meters_9, ft_X4_meters_10, ft_X4_meters_11, ft_X4_meters_12, ft_X4_meters_14, ft_X4_meters_17, ft_X4_meters_18, ft_X4_meters_19, ft_X4_meters_22, ft_X4_meters_25, ft_X4_meters_26, jrcv_st h, s_X4_get h, rg_0_1, rg_0_2, rg_0_3, rg_0_4, rg_0_5, rg_0_6, rg_0_7, rg_0_8, rg_1_1, rg_1_2, rg_1_3, rg_1_4, rg_1_5, rg_1_6, rg_1_7, rg_1_8, rg_2_1, rg_2_2, rg_2_3, rg_2_4, rg_2_5, rg_2_6, rg_2_7, rg_2_8, rg_3_1, rg_3_2, rg_3_3, rg_3_4, rg_3_5, rg_3_6, rg_3_7, rg_3_8]
  rfl
def restsF (ρ : Nat → Int32) : Int32 := 0 + ρ 32 + ρ 33 + ρ 34 + ρ 35 + ρ 36 + ρ 37
def F_X4_rests_0 : Nat → jT := fun pc => (bif Nat.blt pc 4 then (bif Nat.blt pc 2 then (bif Nat.blt pc 1 then (bif Nat.beq pc 0 then J_iconst 0 1 else jbad) else (bif Nat.beq pc 1 then J_istore 1 2 else jbad)) else (bif Nat.blt pc 3 then (bif Nat.beq pc 2 then J_iconst 0 3 else jbad) else (bif Nat.beq pc 3 then J_istore 2 4 else jbad))) else (bif Nat.blt pc 7 then (bif Nat.blt pc 5 then (bif Nat.beq pc 4 then J_iload 2 5 else jbad) else (bif Nat.beq pc 5 then J_iconst 6 7 else jbad)) else (bif Nat.blt pc 10 then (bif Nat.beq pc 7 then J_icge 24 10 else jbad) else (bif Nat.beq pc 10 then J_iload 1 11 else jbad))))
theorem ftl_X4_rests_0 : F_X4_rests_0 0 = J_iconst 0 1 := rfl
theorem ftl_X4_rests_1 : F_X4_rests_0 1 = J_istore 1 2 := rfl
theorem ftl_X4_rests_2 : F_X4_rests_0 2 = J_iconst 0 3 := rfl
theorem ftl_X4_rests_3 : F_X4_rests_0 3 = J_istore 2 4 := rfl
theorem ftl_X4_rests_4 : F_X4_rests_0 4 = J_iload 2 5 := rfl
theorem ftl_X4_rests_5 : F_X4_rests_0 5 = J_iconst 6 7 := rfl
theorem ftl_X4_rests_7 : F_X4_rests_0 7 = J_icge 24 10 := rfl
theorem ftl_X4_rests_10 : F_X4_rests_0 10 = J_iload 1 11 := rfl
theorem F_X4_rests_0_ok : jOK Y_X4_rests none (F_X4_rests_0) := (jOK_node (jOK_node (jOK_node (jOK_leaf (sn_iconst dX4_rests_0 rfl rfl)) (jOK_leaf (sn_istore_n dX4_rests_1 rfl rfl (by decide)))) (jOK_node (jOK_leaf (sn_iconst dX4_rests_2 rfl rfl)) (jOK_leaf (sn_istore_n dX4_rests_3 rfl rfl (by decide))))) (jOK_node (jOK_node (jOK_leaf (sn_iload_n dX4_rests_4 rfl rfl)) (jOK_leaf (sn_bipush dX4_rests_5 rfl rfl))) (jOK_node (jOK_leaf (sn_icge dX4_rests_7 rfl rfl)) (jOK_leaf (sn_iload_n dX4_rests_10 rfl rfl)))))
def F_X4_rests_11 : Nat → jT := fun pc => (bif Nat.blt pc 17 then (bif Nat.blt pc 13 then (bif Nat.blt pc 12 then (bif Nat.beq pc 11 then J_aload 0 12 else jbad) else (bif Nat.beq pc 12 then J_iload 2 13 else jbad)) else (bif Nat.blt pc 16 then (bif Nat.beq pc 13 then J_callV 4 S_X4_restOf 1 16 else jbad) else (bif Nat.beq pc 16 then J_iadd 17 else jbad))) else (bif Nat.blt pc 21 then (bif Nat.blt pc 18 then (bif Nat.beq pc 17 then J_istore 1 18 else jbad) else (bif Nat.beq pc 18 then J_iinc 2 1 21 else jbad)) else (bif Nat.blt pc 24 then (bif Nat.beq pc 21 then J_goto 4 else jbad) else (bif Nat.blt pc 25 then (bif Nat.beq pc 24 then J_iload 1 25 else jbad) else (bif Nat.beq pc 25 then J_ireturn 0 0 else jbad)))))
theorem ftl_X4_rests_11 : F_X4_rests_11 11 = J_aload 0 12 := rfl
theorem ftl_X4_rests_12 : F_X4_rests_11 12 = J_iload 2 13 := rfl
theorem ftl_X4_rests_13 : F_X4_rests_11 13 = J_callV 4 S_X4_restOf 1 16 := rfl
theorem ftl_X4_rests_16 : F_X4_rests_11 16 = J_iadd 17 := rfl
theorem ftl_X4_rests_17 : F_X4_rests_11 17 = J_istore 1 18 := rfl
theorem ftl_X4_rests_18 : F_X4_rests_11 18 = J_iinc 2 1 21 := rfl
theorem ftl_X4_rests_21 : F_X4_rests_11 21 = J_goto 4 := rfl
theorem ftl_X4_rests_24 : F_X4_rests_11 24 = J_iload 1 25 := rfl
theorem ftl_X4_rests_25 : F_X4_rests_11 25 = J_ireturn 0 0 := rfl
theorem F_X4_rests_11_ok : jOK Y_X4_rests none (F_X4_rests_11) := (jOK_node (jOK_node (jOK_node (jOK_leaf (sn_aload_n dX4_rests_11 rfl rfl)) (jOK_leaf (sn_iload_n dX4_rests_12 rfl rfl))) (jOK_node (jOK_leaf (sn_callV (Y' := Y_X4_restOf) ok_X4_restOf dX4_rests_13 rfl rfl rfl tw_278 tw_279 tw_280 tw_5 jc_X4_restOf rfl ⟨by decide, by decide, rfl⟩ ⟨by decide, by decide⟩)) (jOK_leaf (sn_iadd dX4_rests_16 rfl)))) (jOK_node (jOK_node (jOK_leaf (sn_istore_n dX4_rests_17 rfl rfl (by decide))) (jOK_leaf (sn_iinc dX4_rests_18 rfl rfl (by decide)))) (jOK_node (jOK_leaf (sn_goto dX4_rests_21 rfl)) (jOK_node (jOK_leaf (sn_iload_n dX4_rests_24 rfl rfl)) (jOK_leaf (sn_ireturn dX4_rests_25 rfl rfl))))))
def F_X4_rests_0_25 : Nat → jT := fun pc => bif Nat.blt pc 11 then F_X4_rests_0 pc else F_X4_rests_11 pc
theorem F_X4_rests_0_25_ok : jOK Y_X4_rests none (F_X4_rests_0_25) := jOK_node (F_X4_rests_0_ok) (F_X4_rests_11_ok)
def F_X4_rests : Nat → jT := F_X4_rests_0_25
theorem OK_X4_rests : jOK Y_X4_rests none (F_X4_rests) := F_X4_rests_0_25_ok
theorem ft_X4_rests_0 : F_X4_rests 0 = J_iconst 0 1 := ftl_X4_rests_0
theorem ft_X4_rests_1 : F_X4_rests 1 = J_istore 1 2 := ftl_X4_rests_1
theorem ft_X4_rests_2 : F_X4_rests 2 = J_iconst 0 3 := ftl_X4_rests_2
theorem ft_X4_rests_3 : F_X4_rests 3 = J_istore 2 4 := ftl_X4_rests_3
theorem ft_X4_rests_4 : F_X4_rests 4 = J_iload 2 5 := ftl_X4_rests_4
theorem ft_X4_rests_5 : F_X4_rests 5 = J_iconst 6 7 := ftl_X4_rests_5
theorem ft_X4_rests_7 : F_X4_rests 7 = J_icge 24 10 := ftl_X4_rests_7
theorem ft_X4_rests_10 : F_X4_rests 10 = J_iload 1 11 := ftl_X4_rests_10
theorem ft_X4_rests_11 : F_X4_rests 11 = J_aload 0 12 := ftl_X4_rests_11
theorem ft_X4_rests_12 : F_X4_rests 12 = J_iload 2 13 := ftl_X4_rests_12
theorem ft_X4_rests_13 : F_X4_rests 13 = J_callV 4 S_X4_restOf 1 16 := ftl_X4_rests_13
theorem ft_X4_rests_16 : F_X4_rests 16 = J_iadd 17 := ftl_X4_rests_16
theorem ft_X4_rests_17 : F_X4_rests 17 = J_istore 1 18 := ftl_X4_rests_17
theorem ft_X4_rests_18 : F_X4_rests 18 = J_iinc 2 1 21 := ftl_X4_rests_18
theorem ft_X4_rests_21 : F_X4_rests 21 = J_goto 4 := ftl_X4_rests_21
theorem ft_X4_rests_24 : F_X4_rests 24 = J_iload 1 25 := ftl_X4_rests_24
theorem ft_X4_rests_25 : F_X4_rests 25 = J_ireturn 0 0 := ftl_X4_rests_25
def S_X4_rests : jSp := fun nb vs mem Q => jcs vs ≤ 3 ∧ jrun F_X4_rests [] 130 Q (fun _ _ _ _ _ => False) 0 (jargs vs ++ [none, none]) [] mem (nb, 0, 0)
theorem ok_X4_rests : jMeets Y_X4_rests S_X4_rests := fun _ _ _ _ h => Ok.inl OK_X4_rests 130 [none, none] pn4 rfl h
theorem s_X4_rests {nb d s : Nat} {C : Nat → Nat → Int32} {z : Nat → Int64} {Q : jQ} (h : jSt s d) : S_X4_rests nb [.ref s] (memS d C z) Q = Q (some (.int (restsF (C s)))) (memS d C z) := by
  refine (eq_le rfl).trans ?_
  simp -implicitDefEqProofs only [jr_0, jr_1, jr_2, j_iconst, j_lconst, j_iload0, j_aload0, j_istore0, j_astore0, j_iinc0, j_iload1, j_aload1, j_istore1, j_astore1, j_iinc1, j_iload2, j_aload2, j_istore2, j_astore2, j_iinc2, j_iload3, j_aload3, j_istore3, j_astore3, j_iinc3, j_iload4, j_aload4, j_istore4, j_astore4, j_iinc4, j_iload5, j_aload5, j_istore5, j_astore5, j_iinc5, j_iload6, j_aload6, j_istore6, j_astore6, j_iinc6, j_iload7, j_aload7, j_istore7, j_astore7, j_iinc7, j_iload8, j_aload8, j_istore8, j_astore8, j_iinc8, j_iadd, j_isub, j_imul, j_iand, j_ior, j_ixor, j_ishl, j_ishr, j_iushr, j_idiv, j_irem, j_ineg, j_ladd, j_lmul, j_land, j_lor, j_lcmp, j_lushr, j_lshl, j_i2l, j_l2i, j_dupI, j_dupR, j_popI, j_dup2, j_ifeq, j_iceq, j_ifne, j_icne, j_iflt, j_iclt, j_ifge, j_icge, j_ifgt, j_icgt, j_ifle, j_icle, j_goto, j_tsw, j_sw0, j_sw1, j_ireturn, j_zreturn, j_lreturn, j_return, j_getfield, j_putI, j_putJ, j_putR, j_iaload, j_baload, j_iastore, j_bastore, j_aaload, j_q, j_aastore, j_acopy, j_mmin, j_mmax, j_mabs, j_objinit, j_new, j_newI, j_newQ, j_sld, j_slen, j_callV0, j_callI0, j_callS0, j_callV1, j_callI1, j_callS1, j_callV2, j_callI2, j_callS2, j_callV3, j_callS3, j_callV4, j_callS4, j_callV5, j_callS5, j_pushS, j_pushN, j_sh0, j_sh1, j_sh2, j_sh3, j_sh4, Int32.reduceAdd, Int32.reduceMul, Int32.reduceSub, Int32.reduceLT, Int32.reduceLE, eq_self, i32_10, i32_01, ne_eq, hrow_s, hrow_n, ne10, ne100, ne1000, ne7, ne4, ne14, ne9973, or_true, true_or, or_false, false_or, not_true_eq_false, not_false_eq_true, false_implies, implies_true, and_true, forall_const, true_implies, jargs_n, jargs_r, jargs_i, List.cons_append, List.nil_append, true_and, Nat.reduceEqDiff, reduceIte, ft_X4_rests_0, ft_X4_rests_1, ft_X4_rests_2, ft_X4_rests_3, ft_X4_rests_4, ft_X4_rests_5, ft_X4_rests_7, ft_X4_rests_10, ft_X4_rests_11, ft_X4_rests_12, ft_X4_rests_13, ft_X4_rests_16, ft_X4_rests_17, ft_X4_rests_18, ft_X4_rests_21, ft_X4_rests_24, ft_X4_rests_25, jrcv_st h, s_X4_restOf h, rr_0, rr_1, rr_2, rr_3, rr_4, rr_5]
  rfl
def rstartF (ρ : Nat → Int32) (p st : Int32) : Nat → Int32 := rset (rset (rset (rset (rset ρ p 2 st) p 3 0) p 4 0) p 5 0) p 6 0
def F_X4_restart_0 : Nat → jT := fun pc => (bif Nat.blt pc 8 then (bif Nat.blt pc 3 then (bif Nat.blt pc 1 then (bif Nat.beq pc 0 then J_aload 0 1 else jbad) else (bif Nat.blt pc 2 then (bif Nat.beq pc 1 then J_iload 1 2 else jbad) else (bif Nat.beq pc 2 then J_iconst 2 3 else jbad))) else (bif Nat.blt pc 4 then (bif Nat.beq pc 3 then J_iload 2 4 else jbad) else (bif Nat.blt pc 7 then (bif Nat.beq pc 4 then J_callV 4 S_X4_set 3 7 else jbad) else (bif Nat.beq pc 7 then J_aload 0 8 else jbad)))) else (bif Nat.blt pc 11 then (bif Nat.blt pc 9 then (bif Nat.beq pc 8 then J_iload 1 9 else jbad) else (bif Nat.blt pc 10 then (bif Nat.beq pc 9 then J_iconst 3 10 else jbad) else (bif Nat.beq pc 10 then J_iconst 0 11 else jbad))) else (bif Nat.blt pc 15 then (bif Nat.blt pc 14 then (bif Nat.beq pc 11 then J_callV 4 S_X4_set 3 14 else jbad) else (bif Nat.beq pc 14 then J_aload 0 15 else jbad)) else (bif Nat.blt pc 16 then (bif Nat.beq pc 15 then J_iload 1 16 else jbad) else (bif Nat.beq pc 16 then J_iconst 4 17 else jbad)))))
theorem ftl_X4_restart_0 : F_X4_restart_0 0 = J_aload 0 1 := rfl
theorem ftl_X4_restart_1 : F_X4_restart_0 1 = J_iload 1 2 := rfl
theorem ftl_X4_restart_2 : F_X4_restart_0 2 = J_iconst 2 3 := rfl
theorem ftl_X4_restart_3 : F_X4_restart_0 3 = J_iload 2 4 := rfl
theorem ftl_X4_restart_4 : F_X4_restart_0 4 = J_callV 4 S_X4_set 3 7 := rfl
theorem ftl_X4_restart_7 : F_X4_restart_0 7 = J_aload 0 8 := rfl
theorem ftl_X4_restart_8 : F_X4_restart_0 8 = J_iload 1 9 := rfl
theorem ftl_X4_restart_9 : F_X4_restart_0 9 = J_iconst 3 10 := rfl
theorem ftl_X4_restart_10 : F_X4_restart_0 10 = J_iconst 0 11 := rfl
theorem ftl_X4_restart_11 : F_X4_restart_0 11 = J_callV 4 S_X4_set 3 14 := rfl
theorem ftl_X4_restart_14 : F_X4_restart_0 14 = J_aload 0 15 := rfl
theorem ftl_X4_restart_15 : F_X4_restart_0 15 = J_iload 1 16 := rfl
theorem ftl_X4_restart_16 : F_X4_restart_0 16 = J_iconst 4 17 := rfl
theorem F_X4_restart_0_ok : jOK Y_X4_restart none (F_X4_restart_0) := (jOK_node (jOK_node (jOK_node (jOK_leaf (sn_aload_n dX4_restart_0 rfl rfl)) (jOK_node (jOK_leaf (sn_iload_n dX4_restart_1 rfl rfl)) (jOK_leaf (sn_iconst dX4_restart_2 rfl rfl)))) (jOK_node (jOK_leaf (sn_iload_n dX4_restart_3 rfl rfl)) (jOK_node (jOK_leaf (sn_callV (Y' := Y_X4_set) ok_X4_set dX4_restart_4 rfl rfl rfl tw_150 tw_151 tw_152 tw_5 jc_X4_set rfl ⟨by decide, by decide, rfl⟩ ⟨by decide, by decide⟩)) (jOK_leaf (sn_aload_n dX4_restart_7 rfl rfl))))) (jOK_node (jOK_node (jOK_leaf (sn_iload_n dX4_restart_8 rfl rfl)) (jOK_node (jOK_leaf (sn_iconst dX4_restart_9 rfl rfl)) (jOK_leaf (sn_iconst dX4_restart_10 rfl rfl)))) (jOK_node (jOK_node (jOK_leaf (sn_callV (Y' := Y_X4_set) ok_X4_set dX4_restart_11 rfl rfl rfl tw_150 tw_151 tw_152 tw_5 jc_X4_set rfl ⟨by decide, by decide, rfl⟩ ⟨by decide, by decide⟩)) (jOK_leaf (sn_aload_n dX4_restart_14 rfl rfl))) (jOK_node (jOK_leaf (sn_iload_n dX4_restart_15 rfl rfl)) (jOK_leaf (sn_iconst dX4_restart_16 rfl rfl))))))
def F_X4_restart_17 : Nat → jT := fun pc => (bif Nat.blt pc 25 then (bif Nat.blt pc 22 then (bif Nat.blt pc 18 then (bif Nat.beq pc 17 then J_iconst 0 18 else jbad) else (bif Nat.blt pc 21 then (bif Nat.beq pc 18 then J_callV 4 S_X4_set 3 21 else jbad) else (bif Nat.beq pc 21 then J_aload 0 22 else jbad))) else (bif Nat.blt pc 23 then (bif Nat.beq pc 22 then J_iload 1 23 else jbad) else (bif Nat.blt pc 24 then (bif Nat.beq pc 23 then J_iconst 5 24 else jbad) else (bif Nat.beq pc 24 then J_iconst 0 25 else jbad)))) else (bif Nat.blt pc 30 then (bif Nat.blt pc 28 then (bif Nat.beq pc 25 then J_callV 4 S_X4_set 3 28 else jbad) else (bif Nat.blt pc 29 then (bif Nat.beq pc 28 then J_aload 0 29 else jbad) else (bif Nat.beq pc 29 then J_iload 1 30 else jbad))) else (bif Nat.blt pc 33 then (bif Nat.blt pc 32 then (bif Nat.beq pc 30 then J_iconst 6 32 else jbad) else (bif Nat.beq pc 32 then J_iconst 0 33 else jbad)) else (bif Nat.blt pc 36 then (bif Nat.beq pc 33 then J_callV 4 S_X4_set 3 36 else jbad) else (bif Nat.beq pc 36 then J_return 0 0 else jbad)))))
theorem ftl_X4_restart_17 : F_X4_restart_17 17 = J_iconst 0 18 := rfl
theorem ftl_X4_restart_18 : F_X4_restart_17 18 = J_callV 4 S_X4_set 3 21 := rfl
theorem ftl_X4_restart_21 : F_X4_restart_17 21 = J_aload 0 22 := rfl
theorem ftl_X4_restart_22 : F_X4_restart_17 22 = J_iload 1 23 := rfl
theorem ftl_X4_restart_23 : F_X4_restart_17 23 = J_iconst 5 24 := rfl
theorem ftl_X4_restart_24 : F_X4_restart_17 24 = J_iconst 0 25 := rfl
theorem ftl_X4_restart_25 : F_X4_restart_17 25 = J_callV 4 S_X4_set 3 28 := rfl
theorem ftl_X4_restart_28 : F_X4_restart_17 28 = J_aload 0 29 := rfl
theorem ftl_X4_restart_29 : F_X4_restart_17 29 = J_iload 1 30 := rfl
theorem ftl_X4_restart_30 : F_X4_restart_17 30 = J_iconst 6 32 := rfl
theorem ftl_X4_restart_32 : F_X4_restart_17 32 = J_iconst 0 33 := rfl
theorem ftl_X4_restart_33 : F_X4_restart_17 33 = J_callV 4 S_X4_set 3 36 := rfl
theorem ftl_X4_restart_36 : F_X4_restart_17 36 = J_return 0 0 := rfl
theorem F_X4_restart_17_ok : jOK Y_X4_restart none (F_X4_restart_17) := (jOK_node (jOK_node (jOK_node (jOK_leaf (sn_iconst dX4_restart_17 rfl rfl)) (jOK_node (jOK_leaf (sn_callV (Y' := Y_X4_set) ok_X4_set dX4_restart_18 rfl rfl rfl tw_150 tw_151 tw_152 tw_5 jc_X4_set rfl ⟨by decide, by decide, rfl⟩ ⟨by decide, by decide⟩)) (jOK_leaf (sn_aload_n dX4_restart_21 rfl rfl)))) (jOK_node (jOK_leaf (sn_iload_n dX4_restart_22 rfl rfl)) (jOK_node (jOK_leaf (sn_iconst dX4_restart_23 rfl rfl)) (jOK_leaf (sn_iconst dX4_restart_24 rfl rfl))))) (jOK_node (jOK_node (jOK_leaf (sn_callV (Y' := Y_X4_set) ok_X4_set dX4_restart_25 rfl rfl rfl tw_150 tw_151 tw_152 tw_5 jc_X4_set rfl ⟨by decide, by decide, rfl⟩ ⟨by decide, by decide⟩)) (jOK_node (jOK_leaf (sn_aload_n dX4_restart_28 rfl rfl)) (jOK_leaf (sn_iload_n dX4_restart_29 rfl rfl)))) (jOK_node (jOK_node (jOK_leaf (sn_bipush dX4_restart_30 rfl rfl)) (jOK_leaf (sn_iconst dX4_restart_32 rfl rfl))) (jOK_node (jOK_leaf (sn_callV (Y' := Y_X4_set) ok_X4_set dX4_restart_33 rfl rfl rfl tw_150 tw_151 tw_152 tw_5 jc_X4_set rfl ⟨by decide, by decide, rfl⟩ ⟨by decide, by decide⟩)) (jOK_leaf (sn_return dX4_restart_36 rfl rfl))))))
def F_X4_restart_0_36 : Nat → jT := fun pc => bif Nat.blt pc 17 then F_X4_restart_0 pc else F_X4_restart_17 pc
theorem F_X4_restart_0_36_ok : jOK Y_X4_restart none (F_X4_restart_0_36) := jOK_node (F_X4_restart_0_ok) (F_X4_restart_17_ok)
def F_X4_restart : Nat → jT := F_X4_restart_0_36
theorem OK_X4_restart : jOK Y_X4_restart none (F_X4_restart) := F_X4_restart_0_36_ok
theorem ft_X4_restart_0 : F_X4_restart 0 = J_aload 0 1 := ftl_X4_restart_0
theorem ft_X4_restart_1 : F_X4_restart 1 = J_iload 1 2 := ftl_X4_restart_1
theorem ft_X4_restart_2 : F_X4_restart 2 = J_iconst 2 3 := ftl_X4_restart_2
theorem ft_X4_restart_3 : F_X4_restart 3 = J_iload 2 4 := ftl_X4_restart_3
theorem ft_X4_restart_4 : F_X4_restart 4 = J_callV 4 S_X4_set 3 7 := ftl_X4_restart_4
theorem ft_X4_restart_7 : F_X4_restart 7 = J_aload 0 8 := ftl_X4_restart_7
theorem ft_X4_restart_8 : F_X4_restart 8 = J_iload 1 9 := ftl_X4_restart_8
theorem ft_X4_restart_9 : F_X4_restart 9 = J_iconst 3 10 := ftl_X4_restart_9
theorem ft_X4_restart_10 : F_X4_restart 10 = J_iconst 0 11 := ftl_X4_restart_10
theorem ft_X4_restart_11 : F_X4_restart 11 = J_callV 4 S_X4_set 3 14 := ftl_X4_restart_11
theorem ft_X4_restart_14 : F_X4_restart 14 = J_aload 0 15 := ftl_X4_restart_14
theorem ft_X4_restart_15 : F_X4_restart 15 = J_iload 1 16 := ftl_X4_restart_15
theorem ft_X4_restart_16 : F_X4_restart 16 = J_iconst 4 17 := ftl_X4_restart_16
theorem ft_X4_restart_17 : F_X4_restart 17 = J_iconst 0 18 := ftl_X4_restart_17
theorem ft_X4_restart_18 : F_X4_restart 18 = J_callV 4 S_X4_set 3 21 := ftl_X4_restart_18
theorem ft_X4_restart_21 : F_X4_restart 21 = J_aload 0 22 := ftl_X4_restart_21
theorem ft_X4_restart_22 : F_X4_restart 22 = J_iload 1 23 := ftl_X4_restart_22
theorem ft_X4_restart_23 : F_X4_restart 23 = J_iconst 5 24 := ftl_X4_restart_23
theorem ft_X4_restart_24 : F_X4_restart 24 = J_iconst 0 25 := ftl_X4_restart_24
theorem ft_X4_restart_25 : F_X4_restart 25 = J_callV 4 S_X4_set 3 28 := ftl_X4_restart_25
theorem ft_X4_restart_28 : F_X4_restart 28 = J_aload 0 29 := ftl_X4_restart_28
theorem ft_X4_restart_29 : F_X4_restart 29 = J_iload 1 30 := ftl_X4_restart_29
theorem ft_X4_restart_30 : F_X4_restart 30 = J_iconst 6 32 := ftl_X4_restart_30
theorem ft_X4_restart_32 : F_X4_restart 32 = J_iconst 0 33 := ftl_X4_restart_32
theorem ft_X4_restart_33 : F_X4_restart 33 = J_callV 4 S_X4_set 3 36 := ftl_X4_restart_33
theorem ft_X4_restart_36 : F_X4_restart 36 = J_return 0 0 := ftl_X4_restart_36
def S_X4_restart : jSp := fun nb vs mem Q => jcs vs ≤ 3 ∧ jrun F_X4_restart [] 60 Q (fun _ _ _ _ _ => False) 0 (jargs vs ++ []) [] mem (nb, 0, 0)
theorem ok_X4_restart : jMeets Y_X4_restart S_X4_restart := fun _ _ _ _ h => Ok.inl OK_X4_restart 60 [] pn4 rfl h
theorem s_X4_restart {nb d s : Nat} {C : Nat → Nat → Int32} {z : Nat → Int64} {p st : Int32} {Q : jQ} (h : jSt s d) : S_X4_restart nb [.ref s, .int p, .int st] (memS d C z) Q = Q none (memS d (hrow C s (rstartF (C s) p st)) z) := by
  refine (eq_le rfl).trans ?_
  simp -implicitDefEqProofs only [jr_0, jr_1, jr_2, j_iconst, j_lconst, j_iload0, j_aload0, j_istore0, j_astore0, j_iinc0, j_iload1, j_aload1, j_istore1, j_astore1, j_iinc1, j_iload2, j_aload2, j_istore2, j_astore2, j_iinc2, j_iload3, j_aload3, j_istore3, j_astore3, j_iinc3, j_iload4, j_aload4, j_istore4, j_astore4, j_iinc4, j_iload5, j_aload5, j_istore5, j_astore5, j_iinc5, j_iload6, j_aload6, j_istore6, j_astore6, j_iinc6, j_iload7, j_aload7, j_istore7, j_astore7, j_iinc7, j_iload8, j_aload8, j_istore8, j_astore8, j_iinc8, j_iadd, j_isub, j_imul, j_iand, j_ior, j_ixor, j_ishl, j_ishr, j_iushr, j_idiv, j_irem, j_ineg, j_ladd, j_lmul, j_land, j_lor, j_lcmp, j_lushr, j_lshl, j_i2l, j_l2i, j_dupI, j_dupR, j_popI, j_dup2, j_ifeq, j_iceq, j_ifne, j_icne, j_iflt, j_iclt, j_ifge, j_icge, j_ifgt, j_icgt, j_ifle, j_icle, j_goto, j_tsw, j_sw0, j_sw1, j_ireturn, j_zreturn, j_lreturn, j_return, j_getfield, j_putI, j_putJ, j_putR, j_iaload, j_baload, j_iastore, j_bastore, j_aaload, j_q, j_aastore, j_acopy, j_mmin, j_mmax, j_mabs, j_objinit, j_new, j_newI, j_newQ, j_sld, j_slen, j_callV0, j_callI0, j_callS0, j_callV1, j_callI1, j_callS1, j_callV2, j_callI2, j_callS2, j_callV3, j_callS3, j_callV4, j_callS4, j_callV5, j_callS5, j_pushS, j_pushN, j_sh0, j_sh1, j_sh2, j_sh3, j_sh4, Int32.reduceAdd, Int32.reduceMul, Int32.reduceSub, Int32.reduceLT, Int32.reduceLE, eq_self, i32_10, i32_01, ne_eq, hrow_s, hrow_n, ne10, ne100, ne1000, ne7, ne4, ne14, ne9973, or_true, true_or, or_false, false_or, not_true_eq_false, not_false_eq_true, false_implies, implies_true, and_true, forall_const, true_implies, jargs_n, jargs_r, jargs_i, List.cons_append, List.nil_append, true_and, Nat.reduceEqDiff, reduceIte, ft_X4_restart_0, ft_X4_restart_1, ft_X4_restart_2, ft_X4_restart_3, ft_X4_restart_4, ft_X4_restart_7, ft_X4_restart_8, ft_X4_restart_9, ft_X4_restart_10, ft_X4_restart_11, ft_X4_restart_14, ft_X4_restart_15, ft_X4_restart_16, ft_X4_restart_17, ft_X4_restart_18, ft_X4_restart_21, ft_X4_restart_22, ft_X4_restart_23, ft_X4_restart_24, ft_X4_restart_25, ft_X4_restart_28, ft_X4_restart_29, ft_X4_restart_30, ft_X4_restart_32, ft_X4_restart_33, ft_X4_restart_36, jrcv_st h, s_X4_set h, hrow_s, hrow_hrow]
  rfl
def rtake (ρ0 ρ : Nat → Int32) : Nat → Int32 := upd (upd (rmixR ρ0 (rmixC ρ0 ρ)) 38 (ρ0 38)) 39 (ρ0 39)
def F_X4_take_0 : Nat → jT := fun pc => (bif Nat.blt pc 10 then (bif Nat.blt pc 5 then (bif Nat.blt pc 1 then (bif Nat.beq pc 0 then J_aload 1 1 else jbad) else (bif Nat.blt pc 4 then (bif Nat.beq pc 1 then J_getfield 4 0 4 else jbad) else (bif Nat.beq pc 4 then J_iconst 0 5 else jbad))) else (bif Nat.blt pc 6 then (bif Nat.beq pc 5 then J_aload 0 6 else jbad) else (bif Nat.blt pc 9 then (bif Nat.beq pc 6 then J_getfield 4 0 9 else jbad) else (bif Nat.beq pc 9 then J_iconst 0 10 else jbad)))) else (bif Nat.blt pc 16 then (bif Nat.blt pc 12 then (bif Nat.beq pc 10 then J_iconst 32 12 else jbad) else (bif Nat.blt pc 15 then (bif Nat.beq pc 12 then J_acopy 15 else jbad) else (bif Nat.beq pc 15 then J_aload 1 16 else jbad))) else (bif Nat.blt pc 19 then (bif Nat.beq pc 16 then J_getfield 4 1 19 else jbad) else (bif Nat.blt pc 20 then (bif Nat.beq pc 19 then J_iconst 0 20 else jbad) else (bif Nat.beq pc 20 then J_aload 0 21 else jbad)))))
theorem ftl_X4_take_0 : F_X4_take_0 0 = J_aload 1 1 := rfl
theorem ftl_X4_take_1 : F_X4_take_0 1 = J_getfield 4 0 4 := rfl
theorem ftl_X4_take_4 : F_X4_take_0 4 = J_iconst 0 5 := rfl
theorem ftl_X4_take_5 : F_X4_take_0 5 = J_aload 0 6 := rfl
theorem ftl_X4_take_6 : F_X4_take_0 6 = J_getfield 4 0 9 := rfl
theorem ftl_X4_take_9 : F_X4_take_0 9 = J_iconst 0 10 := rfl
theorem ftl_X4_take_10 : F_X4_take_0 10 = J_iconst 32 12 := rfl
theorem ftl_X4_take_12 : F_X4_take_0 12 = J_acopy 15 := rfl
theorem ftl_X4_take_15 : F_X4_take_0 15 = J_aload 1 16 := rfl
theorem ftl_X4_take_16 : F_X4_take_0 16 = J_getfield 4 1 19 := rfl
theorem ftl_X4_take_19 : F_X4_take_0 19 = J_iconst 0 20 := rfl
theorem ftl_X4_take_20 : F_X4_take_0 20 = J_aload 0 21 := rfl
theorem F_X4_take_0_ok : jOK Y_X4_take none (F_X4_take_0) := (jOK_node (jOK_node (jOK_node (jOK_leaf (sn_aload_n dX4_take_0 rfl rfl)) (jOK_node (jOK_leaf (sn_getfield dX4_take_1 rfl rfl (by decide) tw_89 jin4)) (jOK_leaf (sn_iconst dX4_take_4 rfl rfl)))) (jOK_node (jOK_leaf (sn_aload_n dX4_take_5 rfl rfl)) (jOK_node (jOK_leaf (sn_getfield dX4_take_6 rfl rfl (by decide) tw_89 jin4)) (jOK_leaf (sn_iconst dX4_take_9 rfl rfl))))) (jOK_node (jOK_node (jOK_leaf (sn_bipush dX4_take_10 rfl rfl)) (jOK_node (jOK_leaf (sn_acopy dX4_take_12 rfl tw_335 tw_337 tw_336 tw_9 ⟨by decide, by decide⟩)) (jOK_leaf (sn_aload_n dX4_take_15 rfl rfl)))) (jOK_node (jOK_leaf (sn_getfield dX4_take_16 rfl rfl (by decide) tw_90 jin4)) (jOK_node (jOK_leaf (sn_iconst dX4_take_19 rfl rfl)) (jOK_leaf (sn_aload_n dX4_take_20 rfl rfl))))))
def F_X4_take_21 : Nat → jT := fun pc => (bif Nat.blt pc 32 then (bif Nat.blt pc 27 then (bif Nat.blt pc 24 then (bif Nat.beq pc 21 then J_getfield 4 1 24 else jbad) else (bif Nat.blt pc 25 then (bif Nat.beq pc 24 then J_iconst 0 25 else jbad) else (bif Nat.beq pc 25 then J_iconst 6 27 else jbad))) else (bif Nat.blt pc 30 then (bif Nat.beq pc 27 then J_acopy 30 else jbad) else (bif Nat.blt pc 31 then (bif Nat.beq pc 30 then J_aload 0 31 else jbad) else (bif Nat.beq pc 31 then J_aload 1 32 else jbad)))) else (bif Nat.blt pc 39 then (bif Nat.blt pc 35 then (bif Nat.beq pc 32 then J_getfield 4 2 35 else jbad) else (bif Nat.blt pc 38 then (bif Nat.beq pc 35 then J_putI 4 2 38 else jbad) else (bif Nat.beq pc 38 then J_aload 0 39 else jbad))) else (bif Nat.blt pc 43 then (bif Nat.blt pc 40 then (bif Nat.beq pc 39 then J_aload 1 40 else jbad) else (bif Nat.beq pc 40 then J_getfield 4 3 43 else jbad)) else (bif Nat.blt pc 46 then (bif Nat.beq pc 43 then J_putI 4 3 46 else jbad) else (bif Nat.beq pc 46 then J_return 0 0 else jbad)))))
theorem ftl_X4_take_21 : F_X4_take_21 21 = J_getfield 4 1 24 := rfl
theorem ftl_X4_take_24 : F_X4_take_21 24 = J_iconst 0 25 := rfl
theorem ftl_X4_take_25 : F_X4_take_21 25 = J_iconst 6 27 := rfl
theorem ftl_X4_take_27 : F_X4_take_21 27 = J_acopy 30 := rfl
theorem ftl_X4_take_30 : F_X4_take_21 30 = J_aload 0 31 := rfl
theorem ftl_X4_take_31 : F_X4_take_21 31 = J_aload 1 32 := rfl
theorem ftl_X4_take_32 : F_X4_take_21 32 = J_getfield 4 2 35 := rfl
theorem ftl_X4_take_35 : F_X4_take_21 35 = J_putI 4 2 38 := rfl
theorem ftl_X4_take_38 : F_X4_take_21 38 = J_aload 0 39 := rfl
theorem ftl_X4_take_39 : F_X4_take_21 39 = J_aload 1 40 := rfl
theorem ftl_X4_take_40 : F_X4_take_21 40 = J_getfield 4 3 43 := rfl
theorem ftl_X4_take_43 : F_X4_take_21 43 = J_putI 4 3 46 := rfl
theorem ftl_X4_take_46 : F_X4_take_21 46 = J_return 0 0 := rfl
theorem F_X4_take_21_ok : jOK Y_X4_take none (F_X4_take_21) := (jOK_node (jOK_node (jOK_node (jOK_leaf (sn_getfield dX4_take_21 rfl rfl (by decide) tw_90 jin4)) (jOK_node (jOK_leaf (sn_iconst dX4_take_24 rfl rfl)) (jOK_leaf (sn_bipush dX4_take_25 rfl rfl)))) (jOK_node (jOK_leaf (sn_acopy dX4_take_27 rfl tw_335 tw_337 tw_336 tw_9 ⟨by decide, by decide⟩)) (jOK_node (jOK_leaf (sn_aload_n dX4_take_30 rfl rfl)) (jOK_leaf (sn_aload_n dX4_take_31 rfl rfl))))) (jOK_node (jOK_node (jOK_leaf (sn_getfield dX4_take_32 rfl rfl (by decide) tw_91 jin4)) (jOK_node (jOK_leaf (sn_putI tyX4 dX4_take_35 rfl rfl (by decide) tw_91 jin4 tyX4_ok nmX4 rfl rfl)) (jOK_leaf (sn_aload_n dX4_take_38 rfl rfl)))) (jOK_node (jOK_node (jOK_leaf (sn_aload_n dX4_take_39 rfl rfl)) (jOK_leaf (sn_getfield dX4_take_40 rfl rfl (by decide) tw_94 jin4))) (jOK_node (jOK_leaf (sn_putI tyX4 dX4_take_43 rfl rfl (by decide) tw_94 jin4 tyX4_ok nmX4 rfl rfl)) (jOK_leaf (sn_return dX4_take_46 rfl rfl))))))
def F_X4_take_0_46 : Nat → jT := fun pc => bif Nat.blt pc 21 then F_X4_take_0 pc else F_X4_take_21 pc
theorem F_X4_take_0_46_ok : jOK Y_X4_take none (F_X4_take_0_46) := jOK_node (F_X4_take_0_ok) (F_X4_take_21_ok)
def F_X4_take : Nat → jT := F_X4_take_0_46
theorem OK_X4_take : jOK Y_X4_take none (F_X4_take) := F_X4_take_0_46_ok
theorem ft_X4_take_0 : F_X4_take 0 = J_aload 1 1 := ftl_X4_take_0
theorem ft_X4_take_1 : F_X4_take 1 = J_getfield 4 0 4 := ftl_X4_take_1
theorem ft_X4_take_4 : F_X4_take 4 = J_iconst 0 5 := ftl_X4_take_4
theorem ft_X4_take_5 : F_X4_take 5 = J_aload 0 6 := ftl_X4_take_5
theorem ft_X4_take_6 : F_X4_take 6 = J_getfield 4 0 9 := ftl_X4_take_6
theorem ft_X4_take_9 : F_X4_take 9 = J_iconst 0 10 := ftl_X4_take_9
theorem ft_X4_take_10 : F_X4_take 10 = J_iconst 32 12 := ftl_X4_take_10
theorem ft_X4_take_12 : F_X4_take 12 = J_acopy 15 := ftl_X4_take_12
theorem ft_X4_take_15 : F_X4_take 15 = J_aload 1 16 := ftl_X4_take_15
theorem ft_X4_take_16 : F_X4_take 16 = J_getfield 4 1 19 := ftl_X4_take_16
theorem ft_X4_take_19 : F_X4_take 19 = J_iconst 0 20 := ftl_X4_take_19
theorem ft_X4_take_20 : F_X4_take 20 = J_aload 0 21 := ftl_X4_take_20
theorem ft_X4_take_21 : F_X4_take 21 = J_getfield 4 1 24 := ftl_X4_take_21
theorem ft_X4_take_24 : F_X4_take 24 = J_iconst 0 25 := ftl_X4_take_24
theorem ft_X4_take_25 : F_X4_take 25 = J_iconst 6 27 := ftl_X4_take_25
theorem ft_X4_take_27 : F_X4_take 27 = J_acopy 30 := ftl_X4_take_27
theorem ft_X4_take_30 : F_X4_take 30 = J_aload 0 31 := ftl_X4_take_30
theorem ft_X4_take_31 : F_X4_take 31 = J_aload 1 32 := ftl_X4_take_31
theorem ft_X4_take_32 : F_X4_take 32 = J_getfield 4 2 35 := ftl_X4_take_32
theorem ft_X4_take_35 : F_X4_take 35 = J_putI 4 2 38 := ftl_X4_take_35
theorem ft_X4_take_38 : F_X4_take 38 = J_aload 0 39 := ftl_X4_take_38
theorem ft_X4_take_39 : F_X4_take 39 = J_aload 1 40 := ftl_X4_take_39
theorem ft_X4_take_40 : F_X4_take 40 = J_getfield 4 3 43 := ftl_X4_take_40
theorem ft_X4_take_43 : F_X4_take 43 = J_putI 4 3 46 := ftl_X4_take_43
theorem ft_X4_take_46 : F_X4_take 46 = J_return 0 0 := ftl_X4_take_46
def S_X4_take : jSp := fun nb vs mem Q => jcs vs ≤ 2 ∧ jrun F_X4_take [] 60 Q (fun _ _ _ _ _ => False) 0 (jargs vs ++ []) [] mem (nb, 0, 0)
theorem ok_X4_take : jMeets Y_X4_take S_X4_take := fun _ _ _ _ h => Ok.inl OK_X4_take 60 [] pn4 rfl h
theorem s_X4_take {nb d s s0 : Nat} {C : Nat → Nat → Int32} {z : Nat → Int64} {Q : jQ} (h : jSt s d) (h0 : jSt s0 d) (hne : s0 ≠ s) : S_X4_take nb [.ref s, .ref s0] (memS d C z) Q = Q none (memS d (hrow C s (rtake (C s0) (C s))) z) := by
  refine (eq_le rfl).trans ?_
  simp -implicitDefEqProofs only [jr_0, jr_1, jr_2, j_iconst, j_lconst, j_iload0, j_aload0, j_istore0, j_astore0, j_iinc0, j_iload1, j_aload1, j_istore1, j_astore1, j_iinc1, j_iload2, j_aload2, j_istore2, j_astore2, j_iinc2, j_iload3, j_aload3, j_istore3, j_astore3, j_iinc3, j_iload4, j_aload4, j_istore4, j_astore4, j_iinc4, j_iload5, j_aload5, j_istore5, j_astore5, j_iinc5, j_iload6, j_aload6, j_istore6, j_astore6, j_iinc6, j_iload7, j_aload7, j_istore7, j_astore7, j_iinc7, j_iload8, j_aload8, j_istore8, j_astore8, j_iinc8, j_iadd, j_isub, j_imul, j_iand, j_ior, j_ixor, j_ishl, j_ishr, j_iushr, j_idiv, j_irem, j_ineg, j_ladd, j_lmul, j_land, j_lor, j_lcmp, j_lushr, j_lshl, j_i2l, j_l2i, j_dupI, j_dupR, j_popI, j_dup2, j_ifeq, j_iceq, j_ifne, j_icne, j_iflt, j_iclt, j_ifge, j_icge, j_ifgt, j_icgt, j_ifle, j_icle, j_goto, j_tsw, j_sw0, j_sw1, j_ireturn, j_zreturn, j_lreturn, j_return, j_getfield, j_putI, j_putJ, j_putR, j_iaload, j_baload, j_iastore, j_bastore, j_aaload, j_q, j_aastore, j_acopy, j_mmin, j_mmax, j_mabs, j_objinit, j_new, j_newI, j_newQ, j_sld, j_slen, j_callV0, j_callI0, j_callS0, j_callV1, j_callI1, j_callS1, j_callV2, j_callI2, j_callS2, j_callV3, j_callS3, j_callV4, j_callS4, j_callV5, j_callS5, j_pushS, j_pushN, j_sh0, j_sh1, j_sh2, j_sh3, j_sh4, Int32.reduceAdd, Int32.reduceMul, Int32.reduceSub, Int32.reduceLT, Int32.reduceLE, eq_self, i32_10, i32_01, ne_eq, hrow_s, hrow_n, ne10, ne100, ne1000, ne7, ne4, ne14, ne9973, or_true, true_or, or_false, false_or, not_true_eq_false, not_false_eq_true, false_implies, implies_true, and_true, forall_const, true_implies, jargs_n, jargs_r, jargs_i, List.cons_append, List.nil_append, true_and, Nat.reduceEqDiff, reduceIte, ft_X4_take_0, ft_X4_take_1, ft_X4_take_4, ft_X4_take_5, ft_X4_take_6, ft_X4_take_9, ft_X4_take_10, ft_X4_take_12, ft_X4_take_15, ft_X4_take_16, ft_X4_take_19, ft_X4_take_20, ft_X4_take_21, ft_X4_take_24, ft_X4_take_25, ft_X4_take_27, ft_X4_take_30, ft_X4_take_31, ft_X4_take_32, ft_X4_take_35, ft_X4_take_38, ft_X4_take_39, ft_X4_take_40, ft_X4_take_43, ft_X4_take_46, jfld_s0 h, jfld_s1 h, jfld_s0 h0, jfld_s1 h0, jfld_s2 h0, jfld_s3 h0, jcopy_c h0 h, jcopy_r h0 h, jput_s2 h, jput_s3 h, hrow_s, hrow_n hne, hrow_hrow]
  rfl
