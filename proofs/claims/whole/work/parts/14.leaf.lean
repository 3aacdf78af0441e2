/-! numbers -/
theorem i32_le_nI {n : Int32} {j : Nat} (hj : j < 2 ^ 31) : n ≤ nI j ↔ n.toNatClampNeg ≤ j := by
  rw [Int32.le_iff_toInt_le, nI_toInt hj]
  show n.toInt ≤ (j : Int) ↔ n.toInt.toNat ≤ j
  omega
theorem i32_clt (n : Int32) : n.toNatClampNeg < 2 ^ 31 := by
  have := n.toInt_lt
  show n.toInt.toNat < 2 ^ 31
  omega
def F_X6_has_0 : Nat → jT := fun pc => (bif Nat.blt pc 5 then (bif Nat.blt pc 2 then (bif Nat.blt pc 1 then (bif Nat.beq pc 0 then J_iload 0 1 else jbad) else (bif Nat.beq pc 1 then J_iload 1 2 else jbad)) else (bif Nat.blt pc 3 then (bif Nat.beq pc 2 then J_ishr 3 else jbad) else (bif Nat.blt pc 4 then (bif Nat.beq pc 3 then J_iconst 1 4 else jbad) else (bif Nat.beq pc 4 then J_iand 5 else jbad)))) else (bif Nat.blt pc 10 then (bif Nat.blt pc 6 then (bif Nat.beq pc 5 then J_iconst 1 6 else jbad) else (bif Nat.blt pc 9 then (bif Nat.beq pc 6 then J_icne 13 9 else jbad) else (bif Nat.beq pc 9 then J_iconst 1 10 else jbad))) else (bif Nat.blt pc 13 then (bif Nat.beq pc 10 then J_goto 14 else jbad) else (bif Nat.blt pc 14 then (bif Nat.beq pc 13 then J_iconst 0 14 else jbad) else (bif Nat.beq pc 14 then J_zreturn 0 0 else jbad)))))
theorem ftl_X6_has_0 : F_X6_has_0 0 = J_iload 0 1 := rfl
theorem ftl_X6_has_1 : F_X6_has_0 1 = J_iload 1 2 := rfl
theorem ftl_X6_has_2 : F_X6_has_0 2 = J_ishr 3 := rfl
theorem ftl_X6_has_3 : F_X6_has_0 3 = J_iconst 1 4 := rfl
theorem ftl_X6_has_4 : F_X6_has_0 4 = J_iand 5 := rfl
theorem ftl_X6_has_5 : F_X6_has_0 5 = J_iconst 1 6 := rfl
theorem ftl_X6_has_6 : F_X6_has_0 6 = J_icne 13 9 := rfl
theorem ftl_X6_has_9 : F_X6_has_0 9 = J_iconst 1 10 := rfl
theorem ftl_X6_has_10 : F_X6_has_0 10 = J_goto 14 := rfl
theorem ftl_X6_has_13 : F_X6_has_0 13 = J_iconst 0 14 := rfl
theorem ftl_X6_has_14 : F_X6_has_0 14 = J_zreturn 0 0 := rfl
theorem F_X6_has_0_ok : jOK Y_X6_has none (F_X6_has_0) := (jOK_node (jOK_node (jOK_node (jOK_leaf (sn_iload_n dX6_has_0 rfl rfl)) (jOK_leaf (sn_iload_n dX6_has_1 rfl rfl))) (jOK_node (jOK_leaf (sn_ishr dX6_has_2 rfl)) (jOK_node (jOK_leaf (sn_iconst dX6_has_3 rfl rfl)) (jOK_leaf (sn_iand dX6_has_4 rfl))))) (jOK_node (jOK_node (jOK_leaf (sn_iconst dX6_has_5 rfl rfl)) (jOK_node (jOK_leaf (sn_icne dX6_has_6 rfl rfl)) (jOK_leaf (sn_iconst dX6_has_9 rfl rfl)))) (jOK_node (jOK_leaf (sn_goto dX6_has_10 rfl)) (jOK_node (jOK_leaf (sn_iconst dX6_has_13 rfl rfl)) (jOK_leaf (sn_zreturn dX6_has_14 rfl rfl))))))
def F_X6_has : Nat → jT := F_X6_has_0
theorem OK_X6_has : jOK Y_X6_has none (F_X6_has) := F_X6_has_0_ok
theorem ft_X6_has_0 : F_X6_has 0 = J_iload 0 1 := ftl_X6_has_0
theorem ft_X6_has_1 : F_X6_has 1 = J_iload 1 2 := ftl_X6_has_1
theorem ft_X6_has_2 : F_X6_has 2 = J_ishr 3 := ftl_X6_has_2
theorem ft_X6_has_3 : F_X6_has 3 = J_iconst 1 4 := ftl_X6_has_3
theorem ft_X6_has_4 : F_X6_has 4 = J_iand 5 := ftl_X6_has_4
theorem ft_X6_has_5 : F_X6_has 5 = J_iconst 1 6 := ftl_X6_has_5
theorem ft_X6_has_6 : F_X6_has 6 = J_icne 13 9 := ftl_X6_has_6
theorem ft_X6_has_9 : F_X6_has 9 = J_iconst 1 10 := ftl_X6_has_9
theorem ft_X6_has_10 : F_X6_has 10 = J_goto 14 := ftl_X6_has_10
theorem ft_X6_has_13 : F_X6_has 13 = J_iconst 0 14 := ftl_X6_has_13
theorem ft_X6_has_14 : F_X6_has 14 = J_zreturn 0 0 := ftl_X6_has_14
def S_X6_has : jSp := fun nb vs mem Q => jcs vs ≤ 2 ∧ jrun F_X6_has [] 40 Q (fun _ _ _ _ _ => False) 0 (jargs vs ++ []) [] mem (nb, 0, 0)
theorem ok_X6_has : jMeets Y_X6_has S_X6_has := fun _ _ _ _ h => Ok.inl OK_X6_has 40 [] pn6 rfl h
theorem s_X6_has {nb : Nat} {mem : jM} {a k : Int32} {Q : jQ} : S_X6_has nb [.int a, .int k] mem Q = Q (some (.int (zb ((a >>> (k &&& 31)) &&& 1 = 1)))) mem := by
  refine (eq_le rfl).trans ?_
  simp -implicitDefEqProofs only [jr_0, jr_1, jr_2, j_iconst, j_lconst, j_iload0, j_aload0, j_istore0, j_astore0, j_iinc0, j_iload1, j_aload1, j_istore1, j_astore1, j_iinc1, j_iload2, j_aload2, j_istore2, j_astore2, j_iinc2, j_iload3, j_aload3, j_istore3, j_astore3, j_iinc3, j_iload4, j_aload4, j_istore4, j_astore4, j_iinc4, j_iload5, j_aload5, j_istore5, j_astore5, j_iinc5, j_iload6, j_aload6, j_istore6, j_astore6, j_iinc6, j_iload7, j_aload7, j_istore7, j_astore7, j_iinc7, j_iload8, j_aload8, j_istore8, j_astore8, j_iinc8, j_iadd, j_isub, j_imul, j_iand, j_ior, j_ixor, j_ishl, j_ishr, j_iushr, j_idiv, j_irem, j_ineg, j_ladd, j_lmul, j_land, j_lor, j_lcmp, j_lushr, j_lshl, j_i2l, j_l2i, j_dupI, j_dupR, j_popI, j_dup2, j_ifeq, j_iceq, j_ifne, j_icne, j_iflt, j_iclt, j_ifge, j_icge, j_ifgt, j_icgt, j_ifle, j_icle, j_goto, j_tsw, j_sw0, j_sw1, j_ireturn, j_zreturn, j_lreturn, j_return, j_getfield, j_putI, j_putJ, j_putR, j_iaload, j_baload, j_iastore, j_bastore, j_aaload, j_q, j_aastore, j_acopy, j_mmin, j_mmax, j_mabs, j_objinit, j_new, j_newI, j_newQ, j_sld, j_slen, j_callV0, j_callI0, j_callS0, j_callV1, j_callI1, j_callS1, j_callV2, j_callI2, j_callS2, j_callV3, j_callS3, j_callV4, j_callS4, j_callV5, j_callS5, j_pushS, j_pushN, j_sh0, j_sh1, j_sh2, j_sh3, j_sh4, Int32.reduceAdd, Int32.reduceMul, Int32.reduceSub, Int32.reduceLT, Int32.reduceLE, eq_self, i32_10, i32_01, ne_eq, hrow_s, hrow_n, ne10, ne100, ne1000, ne7, ne4, ne14, ne9973, or_true, true_or, or_false, false_or, not_true_eq_false, not_false_eq_true, false_implies, implies_true, and_true, forall_const, true_implies, jargs_n, jargs_r, jargs_i, List.cons_append, List.nil_append, true_and, Nat.reduceEqDiff, reduceIte, ft_X6_has_0, ft_X6_has_1, ft_X6_has_2, ft_X6_has_3, ft_X6_has_4, ft_X6_has_5, ft_X6_has_6, ft_X6_has_9, ft_X6_has_10, ft_X6_has_13, ft_X6_has_14]
  grind [zb]
def signF (sign p draw : Int32) : Int32 := 31 * sign + 7 * draw + p + 1 - (31 * sign + 7 * draw + p + 1) / 9973 * 9973
def F_X6_nextSign_0 : Nat → jT := fun pc => (bif Nat.blt pc 9 then (bif Nat.blt pc 4 then (bif Nat.blt pc 2 then (bif Nat.beq pc 0 then J_iconst 31 2 else jbad) else (bif Nat.blt pc 3 then (bif Nat.beq pc 2 then J_iload 0 3 else jbad) else (bif Nat.beq pc 3 then J_imul 4 else jbad))) else (bif Nat.blt pc 7 then (bif Nat.blt pc 6 then (bif Nat.beq pc 4 then J_iconst 7 6 else jbad) else (bif Nat.beq pc 6 then J_iload 2 7 else jbad)) else (bif Nat.blt pc 8 then (bif Nat.beq pc 7 then J_imul 8 else jbad) else (bif Nat.beq pc 8 then J_iadd 9 else jbad)))) else (bif Nat.blt pc 12 then (bif Nat.blt pc 10 then (bif Nat.beq pc 9 then J_iload 1 10 else jbad) else (bif Nat.blt pc 11 then (bif Nat.beq pc 10 then J_iadd 11 else jbad) else (bif Nat.beq pc 11 then J_iconst 1 12 else jbad))) else (bif Nat.blt pc 16 then (bif Nat.blt pc 13 then (bif Nat.beq pc 12 then J_iadd 13 else jbad) else (bif Nat.beq pc 13 then J_iconst 9973 16 else jbad)) else (bif Nat.blt pc 17 then (bif Nat.beq pc 16 then J_irem 17 else jbad) else (bif Nat.beq pc 17 then J_ireturn 0 0 else jbad)))))
theorem ftl_X6_nextSign_0 : F_X6_nextSign_0 0 = J_iconst 31 2 := rfl
theorem ftl_X6_nextSign_2 : F_X6_nextSign_0 2 = J_iload 0 3 := rfl
theorem ftl_X6_nextSign_3 : F_X6_nextSign_0 3 = J_imul 4 := rfl
theorem ftl_X6_nextSign_4 : F_X6_nextSign_0 4 = J_iconst 7 6 := rfl
theorem ftl_X6_nextSign_6 : F_X6_nextSign_0 6 = J_iload 2 7 := rfl
theorem ftl_X6_nextSign_7 : F_X6_nextSign_0 7 = J_imul 8 := rfl
theorem ftl_X6_nextSign_8 : F_X6_nextSign_0 8 = J_iadd 9 := rfl
theorem ftl_X6_nextSign_9 : F_X6_nextSign_0 9 = J_iload 1 10 := rfl
theorem ftl_X6_nextSign_10 : F_X6_nextSign_0 10 = J_iadd 11 := rfl
theorem ftl_X6_nextSign_11 : F_X6_nextSign_0 11 = J_iconst 1 12 := rfl
theorem ftl_X6_nextSign_12 : F_X6_nextSign_0 12 = J_iadd 13 := rfl
theorem ftl_X6_nextSign_13 : F_X6_nextSign_0 13 = J_iconst 9973 16 := rfl
theorem ftl_X6_nextSign_16 : F_X6_nextSign_0 16 = J_irem 17 := rfl
theorem ftl_X6_nextSign_17 : F_X6_nextSign_0 17 = J_ireturn 0 0 := rfl
theorem F_X6_nextSign_0_ok : jOK Y_X6_nextSign none (F_X6_nextSign_0) := (jOK_node (jOK_node (jOK_node (jOK_leaf (sn_bipush dX6_nextSign_0 rfl rfl)) (jOK_node (jOK_leaf (sn_iload_n dX6_nextSign_2 rfl rfl)) (jOK_leaf (sn_imul dX6_nextSign_3 rfl)))) (jOK_node (jOK_node (jOK_leaf (sn_bipush dX6_nextSign_4 rfl rfl)) (jOK_leaf (sn_iload_n dX6_nextSign_6 rfl rfl))) (jOK_node (jOK_leaf (sn_imul dX6_nextSign_7 rfl)) (jOK_leaf (sn_iadd dX6_nextSign_8 rfl))))) (jOK_node (jOK_node (jOK_leaf (sn_iload_n dX6_nextSign_9 rfl rfl)) (jOK_node (jOK_leaf (sn_iadd dX6_nextSign_10 rfl)) (jOK_leaf (sn_iconst dX6_nextSign_11 rfl rfl)))) (jOK_node (jOK_node (jOK_leaf (sn_iadd dX6_nextSign_12 rfl)) (jOK_leaf (sn_sipush dX6_nextSign_13 rfl rfl))) (jOK_node (jOK_leaf (sn_irem dX6_nextSign_16 rfl)) (jOK_leaf (sn_ireturn dX6_nextSign_17 rfl rfl))))))
def F_X6_nextSign : Nat → jT := F_X6_nextSign_0
theorem OK_X6_nextSign : jOK Y_X6_nextSign none (F_X6_nextSign) := F_X6_nextSign_0_ok
theorem ft_X6_nextSign_0 : F_X6_nextSign 0 = J_iconst 31 2 := ftl_X6_nextSign_0
theorem ft_X6_nextSign_2 : F_X6_nextSign 2 = J_iload 0 3 := ftl_X6_nextSign_2
theorem ft_X6_nextSign_3 : F_X6_nextSign 3 = J_imul 4 := ftl_X6_nextSign_3
theorem ft_X6_nextSign_4 : F_X6_nextSign 4 = J_iconst 7 6 := ftl_X6_nextSign_4
theorem ft_X6_nextSign_6 : F_X6_nextSign 6 = J_iload 2 7 := ftl_X6_nextSign_6
theorem ft_X6_nextSign_7 : F_X6_nextSign 7 = J_imul 8 := ftl_X6_nextSign_7
theorem ft_X6_nextSign_8 : F_X6_nextSign 8 = J_iadd 9 := ftl_X6_nextSign_8
theorem ft_X6_nextSign_9 : F_X6_nextSign 9 = J_iload 1 10 := ftl_X6_nextSign_9
theorem ft_X6_nextSign_10 : F_X6_nextSign 10 = J_iadd 11 := ftl_X6_nextSign_10
theorem ft_X6_nextSign_11 : F_X6_nextSign 11 = J_iconst 1 12 := ftl_X6_nextSign_11
theorem ft_X6_nextSign_12 : F_X6_nextSign 12 = J_iadd 13 := ftl_X6_nextSign_12
theorem ft_X6_nextSign_13 : F_X6_nextSign 13 = J_iconst 9973 16 := ftl_X6_nextSign_13
theorem ft_X6_nextSign_16 : F_X6_nextSign 16 = J_irem 17 := ftl_X6_nextSign_16
theorem ft_X6_nextSign_17 : F_X6_nextSign 17 = J_ireturn 0 0 := ftl_X6_nextSign_17
def S_X6_nextSign : jSp := fun nb vs mem Q => jcs vs ≤ 3 ∧ jrun F_X6_nextSign [] 40 Q (fun _ _ _ _ _ => False) 0 (jargs vs ++ []) [] mem (nb, 0, 0)
theorem ok_X6_nextSign : jMeets Y_X6_nextSign S_X6_nextSign := fun _ _ _ _ h => Ok.inl OK_X6_nextSign 40 [] pn6 rfl h
theorem s_X6_nextSign {nb : Nat} {mem : jM} {a p x : Int32} {Q : jQ} : S_X6_nextSign nb [.int a, .int p, .int x] mem Q = Q (some (.int (signF a p x))) mem := by
  refine (eq_le rfl).trans ?_
  simp -implicitDefEqProofs only [jr_0, jr_1, jr_2, j_iconst, j_lconst, j_iload0, j_aload0, j_istore0, j_astore0, j_iinc0, j_iload1, j_aload1, j_istore1, j_astore1, j_iinc1, j_iload2, j_aload2, j_istore2, j_astore2, j_iinc2, j_iload3, j_aload3, j_istore3, j_astore3, j_iinc3, j_iload4, j_aload4, j_istore4, j_astore4, j_iinc4, j_iload5, j_aload5, j_istore5, j_astore5, j_iinc5, j_iload6, j_aload6, j_istore6, j_astore6, j_iinc6, j_iload7, j_aload7, j_istore7, j_astore7, j_iinc7, j_iload8, j_aload8, j_istore8, j_astore8, j_iinc8, j_iadd, j_isub, j_imul, j_iand, j_ior, j_ixor, j_ishl, j_ishr, j_iushr, j_idiv, j_irem, j_ineg, j_ladd, j_lmul, j_land, j_lor, j_lcmp, j_lushr, j_lshl, j_i2l, j_l2i, j_dupI, j_dupR, j_popI, j_dup2, j_ifeq, j_iceq, j_ifne, j_icne, j_iflt, j_iclt, j_ifge, j_icge, j_ifgt, j_icgt, j_ifle, j_icle, j_goto, j_tsw, j_sw0, j_sw1, j_ireturn, j_zreturn, j_lreturn, j_return, j_getfield, j_putI, j_putJ, j_putR, j_iaload, j_baload, j_iastore, j_bastore, j_aaload, j_q, j_aastore, j_acopy, j_mmin, j_mmax, j_mabs, j_objinit, j_new, j_newI, j_newQ, j_sld, j_slen, j_callV0, j_callI0, j_callS0, j_callV1, j_callI1, j_callS1, j_callV2, j_callI2, j_callS2, j_callV3, j_callS3, j_callV4, j_callS4, j_callV5, j_callS5, j_pushS, j_pushN, j_sh0, j_sh1, j_sh2, j_sh3, j_sh4, Int32.reduceAdd, Int32.reduceMul, Int32.reduceSub, Int32.reduceLT, Int32.reduceLE, eq_self, i32_10, i32_01, ne_eq, hrow_s, hrow_n, ne10, ne100, ne1000, ne7, ne4, ne14, ne9973, or_true, true_or, or_false, false_or, not_true_eq_false, not_false_eq_true, false_implies, implies_true, and_true, forall_const, true_implies, jargs_n, jargs_r, jargs_i, List.cons_append, List.nil_append, true_and, Nat.reduceEqDiff, reduceIte, ft_X6_nextSign_0, ft_X6_nextSign_2, ft_X6_nextSign_3, ft_X6_nextSign_4, ft_X6_nextSign_6, ft_X6_nextSign_7, ft_X6_nextSign_8, ft_X6_nextSign_9, ft_X6_nextSign_10, ft_X6_nextSign_11, ft_X6_nextSign_12, ft_X6_nextSign_13, ft_X6_nextSign_16, ft_X6_nextSign_17]
  rfl
def powF (b : Int32) : Nat → Int32
  | 0 => 1
  | k + 1 => powF b k * b
def S_X6_power : jSp := fun _ vs mem Q => match vs with
  | [.int b, .int n] => Q (some (.int (powF b n.toNatClampNeg))) mem
  | _ => False
theorem s_X6_power {nb : Nat} {mem : jM} {b n : Int32} {Q : jQ} : S_X6_power nb [.int b, .int n] mem Q = Q (some (.int (powF b n.toNatClampNeg))) mem := rfl
def F_X6_power_0 : Nat → jT := fun pc => (bif Nat.blt pc 9 then (bif Nat.blt pc 3 then (bif Nat.blt pc 1 then (bif Nat.beq pc 0 then J_iconst 1 1 else jbad) else (bif Nat.blt pc 2 then (bif Nat.beq pc 1 then J_istore 2 2 else jbad) else (bif Nat.beq pc 2 then J_iconst 0 3 else jbad))) else (bif Nat.blt pc 5 then (bif Nat.blt pc 4 then (bif Nat.beq pc 3 then J_istore 3 4 else jbad) else (bif Nat.beq pc 4 then J_iload 3 5 else jbad)) else (bif Nat.blt pc 6 then (bif Nat.beq pc 5 then J_iload 1 6 else jbad) else (bif Nat.beq pc 6 then J_icge 19 9 else jbad)))) else (bif Nat.blt pc 13 then (bif Nat.blt pc 11 then (bif Nat.blt pc 10 then (bif Nat.beq pc 9 then J_iload 2 10 else jbad) else (bif Nat.beq pc 10 then J_iload 0 11 else jbad)) else (bif Nat.blt pc 12 then (bif Nat.beq pc 11 then J_imul 12 else jbad) else (bif Nat.beq pc 12 then J_istore 2 13 else jbad))) else (bif Nat.blt pc 19 then (bif Nat.blt pc 16 then (bif Nat.beq pc 13 then J_iinc 3 1 16 else jbad) else (bif Nat.beq pc 16 then J_goto 4 else jbad)) else (bif Nat.blt pc 20 then (bif Nat.beq pc 19 then J_iload 2 20 else jbad) else (bif Nat.beq pc 20 then J_ireturn 0 0 else jbad)))))
theorem ftl_X6_power_0 : F_X6_power_0 0 = J_iconst 1 1 := rfl
theorem ftl_X6_power_1 : F_X6_power_0 1 = J_istore 2 2 := rfl
theorem ftl_X6_power_2 : F_X6_power_0 2 = J_iconst 0 3 := rfl
theorem ftl_X6_power_3 : F_X6_power_0 3 = J_istore 3 4 := rfl
theorem ftl_X6_power_4 : F_X6_power_0 4 = J_iload 3 5 := rfl
theorem ftl_X6_power_5 : F_X6_power_0 5 = J_iload 1 6 := rfl
theorem ftl_X6_power_6 : F_X6_power_0 6 = J_icge 19 9 := rfl
theorem ftl_X6_power_9 : F_X6_power_0 9 = J_iload 2 10 := rfl
theorem ftl_X6_power_10 : F_X6_power_0 10 = J_iload 0 11 := rfl
theorem ftl_X6_power_11 : F_X6_power_0 11 = J_imul 12 := rfl
theorem ftl_X6_power_12 : F_X6_power_0 12 = J_istore 2 13 := rfl
theorem ftl_X6_power_13 : F_X6_power_0 13 = J_iinc 3 1 16 := rfl
theorem ftl_X6_power_16 : F_X6_power_0 16 = J_goto 4 := rfl
theorem ftl_X6_power_19 : F_X6_power_0 19 = J_iload 2 20 := rfl
theorem ftl_X6_power_20 : F_X6_power_0 20 = J_ireturn 0 0 := rfl
theorem F_X6_power_0_ok : jOK Y_X6_power none (F_X6_power_0) := (jOK_node (jOK_node (jOK_node (jOK_leaf (sn_iconst dX6_power_0 rfl rfl)) (jOK_node (jOK_leaf (sn_istore_n dX6_power_1 rfl rfl (by decide))) (jOK_leaf (sn_iconst dX6_power_2 rfl rfl)))) (jOK_node (jOK_node (jOK_leaf (sn_istore_n dX6_power_3 rfl rfl (by decide))) (jOK_leaf (sn_iload_n dX6_power_4 rfl rfl))) (jOK_node (jOK_leaf (sn_iload_n dX6_power_5 rfl rfl)) (jOK_leaf (sn_icge dX6_power_6 rfl rfl))))) (jOK_node (jOK_node (jOK_node (jOK_leaf (sn_iload_n dX6_power_9 rfl rfl)) (jOK_leaf (sn_iload_n dX6_power_10 rfl rfl))) (jOK_node (jOK_leaf (sn_imul dX6_power_11 rfl)) (jOK_leaf (sn_istore_n dX6_power_12 rfl rfl (by decide))))) (jOK_node (jOK_node (jOK_leaf (sn_iinc dX6_power_13 rfl rfl (by decide))) (jOK_leaf (sn_goto dX6_power_16 rfl))) (jOK_node (jOK_leaf (sn_iload_n dX6_power_19 rfl rfl)) (jOK_leaf (sn_ireturn dX6_power_20 rfl rfl))))))
def F_X6_power : Nat → jT := F_X6_power_0
theorem OK_X6_power : jOK Y_X6_power none (F_X6_power) := F_X6_power_0_ok
theorem ft_X6_power_0 : F_X6_power 0 = J_iconst 1 1 := ftl_X6_power_0
theorem ft_X6_power_1 : F_X6_power 1 = J_istore 2 2 := ftl_X6_power_1
theorem ft_X6_power_2 : F_X6_power 2 = J_iconst 0 3 := ftl_X6_power_2
theorem ft_X6_power_3 : F_X6_power 3 = J_istore 3 4 := ftl_X6_power_3
theorem ft_X6_power_4 : F_X6_power 4 = J_iload 3 5 := ftl_X6_power_4
theorem ft_X6_power_5 : F_X6_power 5 = J_iload 1 6 := ftl_X6_power_5
theorem ft_X6_power_6 : F_X6_power 6 = J_icge 19 9 := ftl_X6_power_6
theorem ft_X6_power_9 : F_X6_power 9 = J_iload 2 10 := ftl_X6_power_9
theorem ft_X6_power_10 : F_X6_power 10 = J_iload 0 11 := ftl_X6_power_10
theorem ft_X6_power_11 : F_X6_power 11 = J_imul 12 := ftl_X6_power_11
theorem ft_X6_power_12 : F_X6_power 12 = J_istore 2 13 := ftl_X6_power_12
theorem ft_X6_power_13 : F_X6_power 13 = J_iinc 3 1 16 := ftl_X6_power_13
theorem ft_X6_power_16 : F_X6_power 16 = J_goto 4 := ftl_X6_power_16
theorem ft_X6_power_19 : F_X6_power 19 = J_iload 2 20 := ftl_X6_power_19
theorem ft_X6_power_20 : F_X6_power 20 = J_ireturn 0 0 := ftl_X6_power_20
theorem lp_X6_power {Q : jQ} {mem : jM} {nb : Nat} {b n : Int32} (h : Q (some (.int (powF b n.toNatClampNeg))) mem) : ∀ k j, j + k = n.toNatClampNeg → Rn Y_X6_power none Q 4 [some (.int b), some (.int n), some (.int (powF b j)), some (.int (nI j))] [] mem (nb, 0, 0) := by
  intro k
  induction k with
  | zero =>
    intro j hj
    have hc : (n ≤ nI j) = True := eq_true ((i32_le_nI (by have := i32_clt n; omega)).mpr (by omega))
    refine jrun_first OK_X6_power (C := [4]) 40 ?_
    simp -implicitDefEqProofs only [jr_0, jr_1, jr_2, j_iconst, j_lconst, j_iload0, j_aload0, j_istore0, j_astore0, j_iinc0, j_iload1, j_aload1, j_istore1, j_astore1, j_iinc1, j_iload2, j_aload2, j_istore2, j_astore2, j_iinc2, j_iload3, j_aload3, j_istore3, j_astore3, j_iinc3, j_iload4, j_aload4, j_istore4, j_astore4, j_iinc4, j_iload5, j_aload5, j_istore5, j_astore5, j_iinc5, j_iload6, j_aload6, j_istore6, j_astore6, j_iinc6, j_iload7, j_aload7, j_istore7, j_astore7, j_iinc7, j_iload8, j_aload8, j_istore8, j_astore8, j_iinc8, j_iadd, j_isub, j_imul, j_iand, j_ior, j_ixor, j_ishl, j_ishr, j_iushr, j_idiv, j_irem, j_ineg, j_ladd, j_lmul, j_land, j_lor, j_lcmp, j_lushr, j_lshl, j_i2l, j_l2i, j_dupI, j_dupR, j_popI, j_dup2, j_ifeq, j_iceq, j_ifne, j_icne, j_iflt, j_iclt, j_ifge, j_icge, j_ifgt, j_icgt, j_ifle, j_icle, j_goto, j_tsw, j_sw0, j_sw1, j_ireturn, j_zreturn, j_lreturn, j_return, j_getfield, j_putI, j_putJ, j_putR, j_iaload, j_baload, j_iastore, j_bastore, j_aaload, j_q, j_aastore, j_acopy, j_mmin, j_mmax, j_mabs, j_objinit, j_new, j_newI, j_newQ, j_sld, j_slen, j_callV0, j_callI0, j_callS0, j_callV1, j_callI1, j_callS1, j_callV2, j_callI2, j_callS2, j_callV3, j_callS3, j_callV4, j_callS4, j_callV5, j_callS5, j_pushS, j_pushN, j_sh0, j_sh1, j_sh2, j_sh3, j_sh4, Int32.reduceAdd, Int32.reduceMul, Int32.reduceSub, Int32.reduceLT, Int32.reduceLE, eq_self, i32_10, i32_01, ne_eq, hrow_s, hrow_n, ne10, ne100, ne1000, ne7, ne4, ne14, ne9973, or_true, true_or, or_false, false_or, not_true_eq_false, not_false_eq_true, false_implies, implies_true, and_true, forall_const, true_implies, jargs_n, jargs_r, jargs_i, List.cons_append, List.nil_append, true_and, Nat.reduceEqDiff, reduceIte, ft_X6_power_0, ft_X6_power_1, ft_X6_power_2, ft_X6_power_3, ft_X6_power_4, ft_X6_power_5, ft_X6_power_6, ft_X6_power_9, ft_X6_power_10, ft_X6_power_11, ft_X6_power_12, ft_X6_power_13, ft_X6_power_16, ft_X6_power_19, ft_X6_power_20, hc]
    rw [show j = n.toNatClampNeg by omega]
    exact h
  | succ k ih =>
    intro j hj
    have hc : (n ≤ nI j) = False := eq_false fun q => by have := (i32_le_nI (by have := i32_clt n; omega)).mp q; omega
    refine jrun_first OK_X6_power (C := [4]) 40 ?_
    simp -implicitDefEqProofs only [jr_0, jr_1, jr_2, j_iconst, j_lconst, j_iload0, j_aload0, j_istore0, j_astore0, j_iinc0, j_iload1, j_aload1, j_istore1, j_astore1, j_iinc1, j_iload2, j_aload2, j_istore2, j_astore2, j_iinc2, j_iload3, j_aload3, j_istore3, j_astore3, j_iinc3, j_iload4, j_aload4, j_istore4, j_astore4, j_iinc4, j_iload5, j_aload5, j_istore5, j_astore5, j_iinc5, j_iload6, j_aload6, j_istore6, j_astore6, j_iinc6, j_iload7, j_aload7, j_istore7, j_astore7, j_iinc7, j_iload8, j_aload8, j_istore8, j_astore8, j_iinc8, j_iadd, j_isub, j_imul, j_iand, j_ior, j_ixor, j_ishl, j_ishr, j_iushr, j_idiv, j_irem, j_ineg, j_ladd, j_lmul, j_land, j_lor, j_lcmp, j_lushr, j_lshl, j_i2l, j_l2i, j_dupI, j_dupR, j_popI, j_dup2, j_ifeq, j_iceq, j_ifne, j_icne, j_iflt, j_iclt, j_ifge, j_icge, j_ifgt, j_icgt, j_ifle, j_icle, j_goto, j_tsw, j_sw0, j_sw1, j_ireturn, j_zreturn, j_lreturn, j_return, j_getfield, j_putI, j_putJ, j_putR, j_iaload, j_baload, j_iastore, j_bastore, j_aaload, j_q, j_aastore, j_acopy, j_mmin, j_mmax, j_mabs, j_objinit, j_new, j_newI, j_newQ, j_sld, j_slen, j_callV0, j_callI0, j_callS0, j_callV1, j_callI1, j_callS1, j_callV2, j_callI2, j_callS2, j_callV3, j_callS3, j_callV4, j_callS4, j_callV5, j_callS5, j_pushS, j_pushN, j_sh0, j_sh1, j_sh2, j_sh3, j_sh4, Int32.reduceAdd, Int32.reduceMul, Int32.reduceSub, Int32.reduceLT, Int32.reduceLE, eq_self, i32_10, i32_01, ne_eq, hrow_s, hrow_n, ne10, ne100, ne1000, ne7, ne4, ne14, ne9973, or_true, true_or, or_false, false_or, not_true_eq_false, not_false_eq_true, false_implies, implies_true, and_true, forall_const, true_implies, jargs_n, jargs_r, jargs_i, List.cons_append, List.nil_append, true_and, Nat.reduceEqDiff, reduceIte, ft_X6_power_0, ft_X6_power_1, ft_X6_power_2, ft_X6_power_3, ft_X6_power_4, ft_X6_power_5, ft_X6_power_6, ft_X6_power_9, ft_X6_power_10, ft_X6_power_11, ft_X6_power_12, ft_X6_power_13, ft_X6_power_16, ft_X6_power_19, ft_X6_power_20, hc, nI_1]
    exact ih (j + 1) (by omega)
theorem ok_X6_power : jMeets Y_X6_power S_X6_power := by
  intro nb vs mem Q h
  match vs, h with
  | [.int b, .int n], h =>
    refine Ok.run OK_X6_power [4] 40 [none, none] pn6 (Nat.le_of_ble_eq_true rfl) rfl ?_
    simp -implicitDefEqProofs only [jr_0, jr_1, jr_2, j_iconst, j_lconst, j_iload0, j_aload0, j_istore0, j_astore0, j_iinc0, j_iload1, j_aload1, j_istore1, j_astore1, j_iinc1, j_iload2, j_aload2, j_istore2, j_astore2, j_iinc2, j_iload3, j_aload3, j_istore3, j_astore3, j_iinc3, j_iload4, j_aload4, j_istore4, j_astore4, j_iinc4, j_iload5, j_aload5, j_istore5, j_astore5, j_iinc5, j_iload6, j_aload6, j_istore6, j_astore6, j_iinc6, j_iload7, j_aload7, j_istore7, j_astore7, j_iinc7, j_iload8, j_aload8, j_istore8, j_astore8, j_iinc8, j_iadd, j_isub, j_imul, j_iand, j_ior, j_ixor, j_ishl, j_ishr, j_iushr, j_idiv, j_irem, j_ineg, j_ladd, j_lmul, j_land, j_lor, j_lcmp, j_lushr, j_lshl, j_i2l, j_l2i, j_dupI, j_dupR, j_popI, j_dup2, j_ifeq, j_iceq, j_ifne, j_icne, j_iflt, j_iclt, j_ifge, j_icge, j_ifgt, j_icgt, j_ifle, j_icle, j_goto, j_tsw, j_sw0, j_sw1, j_ireturn, j_zreturn, j_lreturn, j_return, j_getfield, j_putI, j_putJ, j_putR, j_iaload, j_baload, j_iastore, j_bastore, j_aaload, j_q, j_aastore, j_acopy, j_mmin, j_mmax, j_mabs, j_objinit, j_new, j_newI, j_newQ, j_sld, j_slen, j_callV0, j_callI0, j_callS0, j_callV1, j_callI1, j_callS1, j_callV2, j_callI2, j_callS2, j_callV3, j_callS3, j_callV4, j_callS4, j_callV5, j_callS5, j_pushS, j_pushN, j_sh0, j_sh1, j_sh2, j_sh3, j_sh4, Int32.reduceAdd, Int32.reduceMul, Int32.reduceSub, Int32.reduceLT, Int32.reduceLE, eq_self, i32_10, i32_01, ne_eq, hrow_s, hrow_n, ne10, ne100, ne1000, ne7, ne4, ne14, ne9973, or_true, true_or, or_false, false_or, not_true_eq_false, not_false_eq_true, false_implies, implies_true, and_true, forall_const, true_implies, jargs_n, jargs_r, jargs_i, List.cons_append, List.nil_append, true_and, Nat.reduceEqDiff, reduceIte, ft_X6_power_0, ft_X6_power_1, ft_X6_power_2, ft_X6_power_3, ft_X6_power_4, ft_X6_power_5, ft_X6_power_6, ft_X6_power_9, ft_X6_power_10, ft_X6_power_11, ft_X6_power_12, ft_X6_power_13, ft_X6_power_16, ft_X6_power_19, ft_X6_power_20]
    exact lp_X6_power h n.toNatClampNeg 0 (by omega)
def facF (n : Int32) : Int32 := if n = 4 then 24 else if n = 3 then 6 else if n = 2 then 2 else 1
def S_X6_factorial : jSp := fun _ vs mem Q => match vs with
  | [.int n] => (0 ≤ n ∧ n ≤ 4) ∧ Q (some (.int (facF n))) mem
  | _ => False
theorem s_X6_factorial {nb : Nat} {mem : jM} {n : Int32} {Q : jQ} : S_X6_factorial nb [.int n] mem Q = ((0 ≤ n ∧ n ≤ 4) ∧ Q (some (.int (facF n))) mem) := rfl
theorem i32_5c {n : Int32} (h : 0 ≤ n ∧ n ≤ 4) : n = 0 ∨ n = 1 ∨ n = 2 ∨ n = 3 ∨ n = 4 := by
  rcases pk_ix n (n := 5) (by decide) with q | q | ⟨j, hj, rfl⟩
  · exact absurd h.1 (Int32.not_le.mpr q)
  · exact absurd (Int32.le_trans q h.2) (by decide)
  · have : ∀ j, j < 5 → nI j = 0 ∨ nI j = 1 ∨ nI j = 2 ∨ nI j = 3 ∨ nI j = 4 := by decide +kernel
    exact this j hj
def F_X6_factorial_0 : Nat → jT := fun pc => (bif Nat.blt pc 9 then (bif Nat.blt pc 3 then (bif Nat.blt pc 1 then (bif Nat.beq pc 0 then J_iconst 1 1 else jbad) else (bif Nat.blt pc 2 then (bif Nat.beq pc 1 then J_istore 1 2 else jbad) else (bif Nat.beq pc 2 then J_iconst 2 3 else jbad))) else (bif Nat.blt pc 5 then (bif Nat.blt pc 4 then (bif Nat.beq pc 3 then J_istore 2 4 else jbad) else (bif Nat.beq pc 4 then J_iload 2 5 else jbad)) else (bif Nat.blt pc 6 then (bif Nat.beq pc 5 then J_iload 0 6 else jbad) else (bif Nat.beq pc 6 then J_icgt 19 9 else jbad)))) else (bif Nat.blt pc 13 then (bif Nat.blt pc 11 then (bif Nat.blt pc 10 then (bif Nat.beq pc 9 then J_iload 1 10 else jbad) else (bif Nat.beq pc 10 then J_iload 2 11 else jbad)) else (bif Nat.blt pc 12 then (bif Nat.beq pc 11 then J_imul 12 else jbad) else (bif Nat.beq pc 12 then J_istore 1 13 else jbad))) else (bif Nat.blt pc 19 then (bif Nat.blt pc 16 then (bif Nat.beq pc 13 then J_iinc 2 1 16 else jbad) else (bif Nat.beq pc 16 then J_goto 4 else jbad)) else (bif Nat.blt pc 20 then (bif Nat.beq pc 19 then J_iload 1 20 else jbad) else (bif Nat.beq pc 20 then J_ireturn 0 0 else jbad)))))
theorem ftl_X6_factorial_0 : F_X6_factorial_0 0 = J_iconst 1 1 := rfl
theorem ftl_X6_factorial_1 : F_X6_factorial_0 1 = J_istore 1 2 := rfl
theorem ftl_X6_factorial_2 : F_X6_factorial_0 2 = J_iconst 2 3 := rfl
theorem ftl_X6_factorial_3 : F_X6_factorial_0 3 = J_istore 2 4 := rfl
theorem ftl_X6_factorial_4 : F_X6_factorial_0 4 = J_iload 2 5 := rfl
theorem ftl_X6_factorial_5 : F_X6_factorial_0 5 = J_iload 0 6 := rfl
theorem ftl_X6_factorial_6 : F_X6_factorial_0 6 = J_icgt 19 9 := rfl
theorem ftl_X6_factorial_9 : F_X6_factorial_0 9 = J_iload 1 10 := rfl
theorem ftl_X6_factorial_10 : F_X6_factorial_0 10 = J_iload 2 11 := rfl
theorem ftl_X6_factorial_11 : F_X6_factorial_0 11 = J_imul 12 := rfl
theorem ftl_X6_factorial_12 : F_X6_factorial_0 12 = J_istore 1 13 := rfl
theorem ftl_X6_factorial_13 : F_X6_factorial_0 13 = J_iinc 2 1 16 := rfl
theorem ftl_X6_factorial_16 : F_X6_factorial_0 16 = J_goto 4 := rfl
theorem ftl_X6_factorial_19 : F_X6_factorial_0 19 = J_iload 1 20 := rfl
theorem ftl_X6_factorial_20 : F_X6_factorial_0 20 = J_ireturn 0 0 := rfl
theorem F_X6_factorial_0_ok : jOK Y_X6_factorial none (F_X6_factorial_0) := (jOK_node (jOK_node (jOK_node (jOK_leaf (sn_iconst dX6_factorial_0 rfl rfl)) (jOK_node (jOK_leaf (sn_istore_n dX6_factorial_1 rfl rfl (by decide))) (jOK_leaf (sn_iconst dX6_factorial_2 rfl rfl)))) (jOK_node (jOK_node (jOK_leaf (sn_istore_n dX6_factorial_3 rfl rfl (by decide))) (jOK_leaf (sn_iload_n dX6_factorial_4 rfl rfl))) (jOK_node (jOK_leaf (sn_iload_n dX6_factorial_5 rfl rfl)) (jOK_leaf (sn_icgt dX6_factorial_6 rfl rfl))))) (jOK_node (jOK_node (jOK_node (jOK_leaf (sn_iload_n dX6_factorial_9 rfl rfl)) (jOK_leaf (sn_iload_n dX6_factorial_10 rfl rfl))) (jOK_node (jOK_leaf (sn_imul dX6_factorial_11 rfl)) (jOK_leaf (sn_istore_n dX6_factorial_12 rfl rfl (by decide))))) (jOK_node (jOK_node (jOK_leaf (sn_iinc dX6_factorial_13 rfl rfl (by decide))) (jOK_leaf (sn_goto dX6_factorial_16 rfl))) (jOK_node (jOK_leaf (sn_iload_n dX6_factorial_19 rfl rfl)) (jOK_leaf (sn_ireturn dX6_factorial_20 rfl rfl))))))
def F_X6_factorial : Nat → jT := F_X6_factorial_0
theorem OK_X6_factorial : jOK Y_X6_factorial none (F_X6_factorial) := F_X6_factorial_0_ok
theorem ft_X6_factorial_0 : F_X6_factorial 0 = J_iconst 1 1 := ftl_X6_factorial_0
theorem ft_X6_factorial_1 : F_X6_factorial 1 = J_istore 1 2 := ftl_X6_factorial_1
theorem ft_X6_factorial_2 : F_X6_factorial 2 = J_iconst 2 3 := ftl_X6_factorial_2
theorem ft_X6_factorial_3 : F_X6_factorial 3 = J_istore 2 4 := ftl_X6_factorial_3
theorem ft_X6_factorial_4 : F_X6_factorial 4 = J_iload 2 5 := ftl_X6_factorial_4
theorem ft_X6_factorial_5 : F_X6_factorial 5 = J_iload 0 6 := ftl_X6_factorial_5
theorem ft_X6_factorial_6 : F_X6_factorial 6 = J_icgt 19 9 := ftl_X6_factorial_6
theorem ft_X6_factorial_9 : F_X6_factorial 9 = J_iload 1 10 := ftl_X6_factorial_9
theorem ft_X6_factorial_10 : F_X6_factorial 10 = J_iload 2 11 := ftl_X6_factorial_10
theorem ft_X6_factorial_11 : F_X6_factorial 11 = J_imul 12 := ftl_X6_factorial_11
theorem ft_X6_factorial_12 : F_X6_factorial 12 = J_istore 1 13 := ftl_X6_factorial_12
theorem ft_X6_factorial_13 : F_X6_factorial 13 = J_iinc 2 1 16 := ftl_X6_factorial_13
theorem ft_X6_factorial_16 : F_X6_factorial 16 = J_goto 4 := ftl_X6_factorial_16
theorem ft_X6_factorial_19 : F_X6_factorial 19 = J_iload 1 20 := ftl_X6_factorial_19
theorem ft_X6_factorial_20 : F_X6_factorial 20 = J_ireturn 0 0 := ftl_X6_factorial_20
theorem ok_X6_factorial : jMeets Y_X6_factorial S_X6_factorial := by
  intro nb vs mem Q h
  match vs, h with
  | [.int n], h =>
    refine Ok.run OK_X6_factorial [] 80 [none, none] pn6 (Nat.le_of_ble_eq_true rfl) rfl ?_
    rcases i32_5c h.1 with rfl | rfl | rfl | rfl | rfl
    · simp -implicitDefEqProofs only [jr_0, jr_1, jr_2, j_iconst, j_lconst, j_iload0, j_aload0, j_istore0, j_astore0, j_iinc0, j_iload1, j_aload1, j_istore1, j_astore1, j_iinc1, j_iload2, j_aload2, j_istore2, j_astore2, j_iinc2, j_iload3, j_aload3, j_istore3, j_astore3, j_iinc3, j_iload4, j_aload4, j_istore4, j_astore4, j_iinc4, j_iload5, j_aload5, j_istore5, j_astore5, j_iinc5, j_iload6, j_aload6, j_istore6, j_astore6, j_iinc6, j_iload7, j_aload7, j_istore7, j_astore7, j_iinc7, j_iload8, j_aload8, j_istore8, j_astore8, j_iinc8, j_iadd, j_isub, j_imul, j_iand, j_ior, j_ixor, j_ishl, j_ishr, j_iushr, j_idiv, j_irem, j_ineg, j_ladd, j_lmul, j_land, j_lor, j_lcmp, j_lushr, j_lshl, j_i2l, j_l2i, j_dupI, j_dupR, j_popI, j_dup2, j_ifeq, j_iceq, j_ifne, j_icne, j_iflt, j_iclt, j_ifge, j_icge, j_ifgt, j_icgt, j_ifle, j_icle, j_goto, j_tsw, j_sw0, j_sw1, j_ireturn, j_zreturn, j_lreturn, j_return, j_getfield, j_putI, j_putJ, j_putR, j_iaload, j_baload, j_iastore, j_bastore, j_aaload, j_q, j_aastore, j_acopy, j_mmin, j_mmax, j_mabs, j_objinit, j_new, j_newI, j_newQ, j_sld, j_slen, j_callV0, j_callI0, j_callS0, j_callV1, j_callI1, j_callS1, j_callV2, j_callI2, j_callS2, j_callV3, j_callS3, j_callV4, j_callS4, j_callV5, j_callS5, j_pushS, j_pushN, j_sh0, j_sh1, j_sh2, j_sh3, j_sh4, Int32.reduceAdd, Int32.reduceMul, Int32.reduceSub, Int32.reduceLT, Int32.reduceLE, eq_self, i32_10, i32_01, ne_eq, hrow_s, hrow_n, ne10, ne100, ne1000, ne7, ne4, ne14, ne9973, or_true, true_or, or_false, false_or, not_true_eq_false, not_false_eq_true, false_implies, implies_true, and_true, forall_const, true_implies, jargs_n, jargs_r, jargs_i, List.cons_append, List.nil_append, true_and, Nat.reduceEqDiff, reduceIte, ft_X6_factorial_0, ft_X6_factorial_1, ft_X6_factorial_2, ft_X6_factorial_3, ft_X6_factorial_4, ft_X6_factorial_5, ft_X6_factorial_6, ft_X6_factorial_9, ft_X6_factorial_10, ft_X6_factorial_11, ft_X6_factorial_12, ft_X6_factorial_13, ft_X6_factorial_16, ft_X6_factorial_19, ft_X6_factorial_20]; exact h.2
    · simp -implicitDefEqProofs only [jr_0, jr_1, jr_2, j_iconst, j_lconst, j_iload0, j_aload0, j_istore0, j_astore0, j_iinc0, j_iload1, j_aload1, j_istore1, j_astore1, j_iinc1, j_iload2, j_aload2, j_istore2, j_astore2, j_iinc2, j_iload3, j_aload3, j_istore3, j_astore3, j_iinc3, j_iload4, j_aload4, j_istore4, j_astore4, j_iinc4, j_iload5, j_aload5, j_istore5, j_astore5, j_iinc5, j_iload6, j_aload6, j_istore6, j_astore6, j_iinc6, j_iload7, j_aload7, j_istore7, j_astore7, j_iinc7, j_iload8, j_aload8, j_istore8, j_astore8, j_iinc8, j_iadd, j_isub, j_imul, j_iand, j_ior, j_ixor, j_ishl, j_ishr, j_iushr, j_idiv, j_irem, j_ineg, j_ladd, j_lmul, j_land, j_lor, j_lcmp, j_lushr, j_lshl, j_i2l, j_l2i, j_dupI, j_dupR, j_popI, j_dup2, j_ifeq, j_iceq, j_ifne, j_icne, j_iflt, j_iclt, j_ifge, j_icge, j_ifgt, j_icgt, j_ifle, j_icle, j_goto, j_tsw, j_sw0, j_sw1, j_ireturn, j_zreturn, j_lreturn, j_return, j_getfield, j_putI, j_putJ, j_putR, j_iaload, j_baload, j_iastore, j_bastore, j_aaload, j_q, j_aastore, j_acopy, j_mmin, j_mmax, j_mabs, j_objinit, j_new, j_newI, j_newQ, j_sld, j_slen, j_callV0, j_callI0, j_callS0, j_callV1, j_callI1, j_callS1, j_callV2, j_callI2, j_callS2, j_callV3, j_callS3, j_callV4, j_callS4, j_callV5, j_callS5, j_pushS, j_pushN, j_sh0, j_sh1, j_sh2, j_sh3, j_sh4, Int32.reduceAdd, Int32.reduceMul, Int32.reduceSub, Int32.reduceLT, Int32.reduceLE, eq_self, i32_10, i32_01, ne_eq, hrow_s, hrow_n, ne10, ne100, ne1000, ne7, ne4, ne14, ne9973, or_true, true_or, or_false, false_or, not_true_eq_false, not_false_eq_true, false_implies, implies_true, and_true, forall_const, true_implies, jargs_n, jargs_r, jargs_i, List.cons_append, List.nil_append, true_and, Nat.reduceEqDiff, reduceIte, ft_X6_factorial_0, ft_X6_factorial_1, ft_X6_factorial_2, ft_X6_factorial_3, ft_X6_factorial_4, ft_X6_factorial_5, ft_X6_factorial_6, ft_X6_factorial_9, ft_X6_factorial_10, ft_X6_factorial_11, ft_X6_factorial_12, ft_X6_factorial_13, ft_X6_factorial_16, ft_X6_factorial_19, ft_X6_factorial_20]; exact h.2
    · simp -implicitDefEqProofs only [jr_0, jr_1, jr_2, j_iconst, j_lconst, j_iload0, j_aload0, j_istore0, j_astore0, j_iinc0, j_iload1, j_aload1, j_istore1, j_astore1, j_iinc1, j_iload2, j_aload2, j_istore2, j_astore2, j_iinc2, j_iload3, j_aload3, j_istore3, j_astore3, j_iinc3, j_iload4, j_aload4, j_istore4, j_astore4, j_iinc4, j_iload5, j_aload5, j_istore5, j_astore5, j_iinc5, j_iload6, j_aload6, j_istore6, j_astore6, j_iinc6, j_iload7, j_aload7, j_istore7, j_astore7, j_iinc7, j_iload8, j_aload8, j_istore8, j_astore8, j_iinc8, j_iadd, j_isub, j_imul, j_iand, j_ior, j_ixor, j_ishl, j_ishr, j_iushr, j_idiv, j_irem, j_ineg, j_ladd, j_lmul, j_land, j_lor, j_lcmp, j_lushr, j_lshl, j_i2l, j_l2i, j_dupI, j_dupR, j_popI, j_dup2, j_ifeq, j_iceq, j_ifne, j_icne, j_iflt, j_iclt, j_ifge, j_icge, j_ifgt, j_icgt, j_ifle, j_icle, j_goto, j_tsw, j_sw0, j_sw1, j_ireturn, j_zreturn, j_lreturn, j_return, j_getfield, j_putI, j_putJ, j_putR, j_iaload, j_baload, j_iastore, j_bastore, j_aaload, j_q, j_aastore, j_acopy, j_mmin, j_mmax, j_mabs, j_objinit, j_new, j_newI, j_newQ, j_sld, j_slen, j_callV0, j_callI0, j_callS0, j_callV1, j_callI1, j_callS1, j_callV2, j_callI2, j_callS2, j_callV3, j_callS3, j_callV4, j_callS4, j_callV5, j_callS5, j_pushS, j_pushN, j_sh0, j_sh1, j_sh2, j_sh3, j_sh4, Int32.reduceAdd, Int32.reduceMul, Int32.reduceSub, Int32.reduceLT, Int32.reduceLE, eq_self, i32_10, i32_01, ne_eq, hrow_s, hrow_n, ne10, ne100, ne1000, ne7, ne4, ne14, ne9973, or_true, true_or, or_false, false_or, not_true_eq_false, not_false_eq_true, false_implies, implies_true, and_true, forall_const, true_implies, jargs_n, jargs_r, jargs_i, List.cons_append, List.nil_append, true_and, Nat.reduceEqDiff, reduceIte, ft_X6_factorial_0, ft_X6_factorial_1, ft_X6_factorial_2, ft_X6_factorial_3, ft_X6_factorial_4, ft_X6_factorial_5, ft_X6_factorial_6, ft_X6_factorial_9, ft_X6_factorial_10, ft_X6_factorial_11, ft_X6_factorial_12, ft_X6_factorial_13, ft_X6_factorial_16, ft_X6_factorial_19, ft_X6_factorial_20]; exact h.2
    · simp -implicitDefEqProofs only [jr_0, jr_1, jr_2, j_iconst, j_lconst, j_iload0, j_aload0, j_istore0, j_astore0, j_iinc0, j_iload1, j_aload1, j_istore1, j_astore1, j_iinc1, j_iload2, j_aload2, j_istore2, j_astore2, j_iinc2, j_iload3, j_aload3, j_istore3, j_astore3, j_iinc3, j_iload4, j_aload4, j_istore4, j_astore4, j_iinc4, j_iload5, j_aload5, j_istore5, j_astore5, j_iinc5, j_iload6, j_aload6, j_istore6, j_astore6, j_iinc6, j_iload7, j_aload7, j_istore7, j_astore7, j_iinc7, j_iload8, j_aload8, j_istore8, j_astore8, j_iinc8, j_iadd, j_isub, j_imul, j_iand, j_ior, j_ixor, j_ishl, j_ishr, j_iushr, j_idiv, j_irem, j_ineg, j_ladd, j_lmul, j_land, j_lor, j_lcmp, j_lushr, j_lshl, j_i2l, j_l2i, j_dupI, j_dupR, j_popI, j_dup2, j_ifeq, j_iceq, j_ifne, j_icne, j_iflt, j_iclt, j_ifge, j_icge, j_ifgt, j_icgt, j_ifle, j_icle, j_goto, j_tsw, j_sw0, j_sw1, j_ireturn, j_zreturn, j_lreturn, j_return, j_getfield, j_putI, j_putJ, j_putR, j_iaload, j_baload, j_iastore, j_bastore, j_aaload, j_q, j_aastore, j_acopy, j_mmin, j_mmax, j_mabs, j_objinit, j_new, j_newI, j_newQ, j_sld, j_slen, j_callV0, j_callI0, j_callS0, j_callV1, j_callI1, j_callS1, j_callV2, j_callI2, j_callS2, j_callV3, j_callS3, j_callV4, j_callS4, j_callV5, j_callS5, j_pushS, j_pushN, j_sh0, j_sh1, j_sh2, j_sh3, j_sh4, Int32.reduceAdd, Int32.reduceMul, Int32.reduceSub, Int32.reduceLT, Int32.reduceLE, eq_self, i32_10, i32_01, ne_eq, hrow_s, hrow_n, ne10, ne100, ne1000, ne7, ne4, ne14, ne9973, or_true, true_or, or_false, false_or, not_true_eq_false, not_false_eq_true, false_implies, implies_true, and_true, forall_const, true_implies, jargs_n, jargs_r, jargs_i, List.cons_append, List.nil_append, true_and, Nat.reduceEqDiff, reduceIte, ft_X6_factorial_0, ft_X6_factorial_1, ft_X6_factorial_2, ft_X6_factorial_3, ft_X6_factorial_4, ft_X6_factorial_5, ft_X6_factorial_6, ft_X6_factorial_9, ft_X6_factorial_10, ft_X6_factorial_11, ft_X6_factorial_12, ft_X6_factorial_13, ft_X6_factorial_16, ft_X6_factorial_19, ft_X6_factorial_20]; exact h.2
    · simp -implicitDefEqProofs only [jr_0, jr_1, jr_2, j_iconst, j_lconst, j_iload0, j_aload0, j_istore0, j_astore0, j_iinc0, j_iload1, j_aload1, j_istore1, j_astore1, j_iinc1, j_iload2, j_aload2, j_istore2, j_astore2, j_iinc2, j_iload3, j_aload3, j_istore3, j_astore3, j_iinc3, j_iload4, j_aload4, j_istore4, j_astore4, j_iinc4, j_iload5, j_aload5, j_istore5, j_astore5, j_iinc5, j_iload6, j_aload6, j_istore6, j_astore6, j_iinc6, j_iload7, j_aload7, j_istore7, j_astore7, j_iinc7, j_iload8, j_aload8, j_istore8, j_astore8, j_iinc8, j_iadd, j_isub, j_imul, j_iand, j_ior, j_ixor, j_ishl, j_ishr, j_iushr, j_idiv, j_irem, j_ineg, j_ladd, j_lmul, j_land, j_lor, j_lcmp, j_lushr, j_lshl, j_i2l, j_l2i, j_dupI, j_dupR, j_popI, j_dup2, j_ifeq, j_iceq, j_ifne, j_icne, j_iflt, j_iclt, j_ifge, j_icge, j_ifgt, j_icgt, j_ifle, j_icle, j_goto, j_tsw, j_sw0, j_sw1, j_ireturn, j_zreturn, j_lreturn, j_return, j_getfield, j_putI, j_putJ, j_putR, j_iaload, j_baload, j_iastore, j_bastore, j_aaload, j_q, j_aastore, j_acopy, j_mmin, j_mmax, j_mabs, j_objinit, j_new, j_newI, j_newQ, j_sld, j_slen, j_callV0, j_callI0, j_callS0, j_callV1, j_callI1, j_callS1, j_callV2, j_callI2, j_callS2, j_callV3, j_callS3, j_callV4, j_callS4, j_callV5, j_callS5, j_pushS, j_pushN, j_sh0, j_sh1, j_sh2, j_sh3, j_sh4, Int32.reduceAdd, Int32.reduceMul, Int32.reduceSub, Int32.reduceLT, Int32.reduceLE, eq_self, i32_10, i32_01, ne_eq, hrow_s, hrow_n, ne10, ne100, ne1000, ne7, ne4, ne14, ne9973, or_true, true_or, or_false, false_or, not_true_eq_false, not_false_eq_true, false_implies, implies_true, and_true, forall_const, true_implies, jargs_n, jargs_r, jargs_i, List.cons_append, List.nil_append, true_and, Nat.reduceEqDiff, reduceIte, ft_X6_factorial_0, ft_X6_factorial_1, ft_X6_factorial_2, ft_X6_factorial_3, ft_X6_factorial_4, ft_X6_factorial_5, ft_X6_factorial_6, ft_X6_factorial_9, ft_X6_factorial_10, ft_X6_factorial_11, ft_X6_factorial_12, ft_X6_factorial_13, ft_X6_factorial_16, ft_X6_factorial_19, ft_X6_factorial_20]; exact h.2
def gdF : Nat → Int32 → Int32 → Int32
  | 0, a, _ => a
  | k + 1, a, b => if b = 0 then a else gdF k b (a - a / b * b)
def S_X6_greatestDivisor : jSp := fun _ vs mem Q => match vs with
  | [.int a, .int b] => Q (some (.int (gdF 50 a b))) mem
  | _ => False
theorem s_X6_greatestDivisor {nb : Nat} {mem : jM} {a b : Int32} {Q : jQ} : S_X6_greatestDivisor nb [.int a, .int b] mem Q = Q (some (.int (gdF 50 a b))) mem := rfl
def F_X6_greatestDivisor_0 : Nat → jT := fun pc => (bif Nat.blt pc 5 then (bif Nat.blt pc 2 then (bif Nat.blt pc 1 then (bif Nat.beq pc 0 then J_iload 0 1 else jbad) else (bif Nat.beq pc 1 then J_istore 2 2 else jbad)) else (bif Nat.blt pc 3 then (bif Nat.beq pc 2 then J_iload 1 3 else jbad) else (bif Nat.blt pc 4 then (bif Nat.beq pc 3 then J_istore 3 4 else jbad) else (bif Nat.beq pc 4 then J_iconst 0 5 else jbad)))) else (bif Nat.blt pc 11 then (bif Nat.blt pc 7 then (bif Nat.beq pc 5 then J_istore 4 7 else jbad) else (bif Nat.blt pc 9 then (bif Nat.beq pc 7 then J_iload 4 9 else jbad) else (bif Nat.beq pc 9 then J_iconst 50 11 else jbad))) else (bif Nat.blt pc 14 then (bif Nat.beq pc 11 then J_icge 34 14 else jbad) else (bif Nat.blt pc 15 then (bif Nat.beq pc 14 then J_iload 3 15 else jbad) else (bif Nat.beq pc 15 then J_ifeq 34 18 else jbad)))))
theorem ftl_X6_greatestDivisor_0 : F_X6_greatestDivisor_0 0 = J_iload 0 1 := rfl
theorem ftl_X6_greatestDivisor_1 : F_X6_greatestDivisor_0 1 = J_istore 2 2 := rfl
theorem ftl_X6_greatestDivisor_2 : F_X6_greatestDivisor_0 2 = J_iload 1 3 := rfl
theorem ftl_X6_greatestDivisor_3 : F_X6_greatestDivisor_0 3 = J_istore 3 4 := rfl
theorem ftl_X6_greatestDivisor_4 : F_X6_greatestDivisor_0 4 = J_iconst 0 5 := rfl
theorem ftl_X6_greatestDivisor_5 : F_X6_greatestDivisor_0 5 = J_istore 4 7 := rfl
theorem ftl_X6_greatestDivisor_7 : F_X6_greatestDivisor_0 7 = J_iload 4 9 := rfl
theorem ftl_X6_greatestDivisor_9 : F_X6_greatestDivisor_0 9 = J_iconst 50 11 := rfl
theorem ftl_X6_greatestDivisor_11 : F_X6_greatestDivisor_0 11 = J_icge 34 14 := rfl
theorem ftl_X6_greatestDivisor_14 : F_X6_greatestDivisor_0 14 = J_iload 3 15 := rfl
theorem ftl_X6_greatestDivisor_15 : F_X6_greatestDivisor_0 15 = J_ifeq 34 18 := rfl
theorem F_X6_greatestDivisor_0_ok : jOK Y_X6_greatestDivisor none (F_X6_greatestDivisor_0) := (jOK_node (jOK_node (jOK_node (jOK_leaf (sn_iload_n dX6_greatestDivisor_0 rfl rfl)) (jOK_leaf (sn_istore_n dX6_greatestDivisor_1 rfl rfl (by decide)))) (jOK_node (jOK_leaf (sn_iload_n dX6_greatestDivisor_2 rfl rfl)) (jOK_node (jOK_leaf (sn_istore_n dX6_greatestDivisor_3 rfl rfl (by decide))) (jOK_leaf (sn_iconst dX6_greatestDivisor_4 rfl rfl))))) (jOK_node (jOK_node (jOK_leaf (sn_istore dX6_greatestDivisor_5 rfl (by decide))) (jOK_node (jOK_leaf (sn_iload dX6_greatestDivisor_7 rfl)) (jOK_leaf (sn_bipush dX6_greatestDivisor_9 rfl rfl)))) (jOK_node (jOK_leaf (sn_icge dX6_greatestDivisor_11 rfl rfl)) (jOK_node (jOK_leaf (sn_iload_n dX6_greatestDivisor_14 rfl rfl)) (jOK_leaf (sn_ifeq dX6_greatestDivisor_15 rfl rfl))))))
def F_X6_greatestDivisor_18 : Nat → jT := fun pc => (bif Nat.blt pc 25 then (bif Nat.blt pc 21 then (bif Nat.blt pc 19 then (bif Nat.beq pc 18 then J_iload 2 19 else jbad) else (bif Nat.blt pc 20 then (bif Nat.beq pc 19 then J_iload 3 20 else jbad) else (bif Nat.beq pc 20 then J_irem 21 else jbad))) else (bif Nat.blt pc 23 then (bif Nat.beq pc 21 then J_istore 5 23 else jbad) else (bif Nat.blt pc 24 then (bif Nat.beq pc 23 then J_iload 3 24 else jbad) else (bif Nat.beq pc 24 then J_istore 2 25 else jbad)))) else (bif Nat.blt pc 31 then (bif Nat.blt pc 27 then (bif Nat.beq pc 25 then J_iload 5 27 else jbad) else (bif Nat.blt pc 28 then (bif Nat.beq pc 27 then J_istore 3 28 else jbad) else (bif Nat.beq pc 28 then J_iinc 4 1 31 else jbad))) else (bif Nat.blt pc 34 then (bif Nat.beq pc 31 then J_goto 7 else jbad) else (bif Nat.blt pc 35 then (bif Nat.beq pc 34 then J_iload 2 35 else jbad) else (bif Nat.beq pc 35 then J_ireturn 0 0 else jbad)))))
theorem ftl_X6_greatestDivisor_18 : F_X6_greatestDivisor_18 18 = J_iload 2 19 := rfl
theorem ftl_X6_greatestDivisor_19 : F_X6_greatestDivisor_18 19 = J_iload 3 20 := rfl
theorem ftl_X6_greatestDivisor_20 : F_X6_greatestDivisor_18 20 = J_irem 21 := rfl
theorem ftl_X6_greatestDivisor_21 : F_X6_greatestDivisor_18 21 = J_istore 5 23 := rfl
theorem ftl_X6_greatestDivisor_23 : F_X6_greatestDivisor_18 23 = J_iload 3 24 := rfl
theorem ftl_X6_greatestDivisor_24 : F_X6_greatestDivisor_18 24 = J_istore 2 25 := rfl
theorem ftl_X6_greatestDivisor_25 : F_X6_greatestDivisor_18 25 = J_iload 5 27 := rfl
theorem ftl_X6_greatestDivisor_27 : F_X6_greatestDivisor_18 27 = J_istore 3 28 := rfl
theorem ftl_X6_greatestDivisor_28 : F_X6_greatestDivisor_18 28 = J_iinc 4 1 31 := rfl
theorem ftl_X6_greatestDivisor_31 : F_X6_greatestDivisor_18 31 = J_goto 7 := rfl
theorem ftl_X6_greatestDivisor_34 : F_X6_greatestDivisor_18 34 = J_iload 2 35 := rfl
theorem ftl_X6_greatestDivisor_35 : F_X6_greatestDivisor_18 35 = J_ireturn 0 0 := rfl
theorem F_X6_greatestDivisor_18_ok : jOK Y_X6_greatestDivisor none (F_X6_greatestDivisor_18) := (jOK_node (jOK_node (jOK_node (jOK_leaf (sn_iload_n dX6_greatestDivisor_18 rfl rfl)) (jOK_node (jOK_leaf (sn_iload_n dX6_greatestDivisor_19 rfl rfl)) (jOK_leaf (sn_irem dX6_greatestDivisor_20 rfl)))) (jOK_node (jOK_leaf (sn_istore dX6_greatestDivisor_21 rfl (by decide))) (jOK_node (jOK_leaf (sn_iload_n dX6_greatestDivisor_23 rfl rfl)) (jOK_leaf (sn_istore_n dX6_greatestDivisor_24 rfl rfl (by decide)))))) (jOK_node (jOK_node (jOK_leaf (sn_iload dX6_greatestDivisor_25 rfl)) (jOK_node (jOK_leaf (sn_istore_n dX6_greatestDivisor_27 rfl rfl (by decide))) (jOK_leaf (sn_iinc dX6_greatestDivisor_28 rfl rfl (by decide))))) (jOK_node (jOK_leaf (sn_goto dX6_greatestDivisor_31 rfl)) (jOK_node (jOK_leaf (sn_iload_n dX6_greatestDivisor_34 rfl rfl)) (jOK_leaf (sn_ireturn dX6_greatestDivisor_35 rfl rfl))))))
def F_X6_greatestDivisor_0_35 : Nat → jT := fun pc => bif Nat.blt pc 18 then F_X6_greatestDivisor_0 pc else F_X6_greatestDivisor_18 pc
theorem F_X6_greatestDivisor_0_35_ok : jOK Y_X6_greatestDivisor none (F_X6_greatestDivisor_0_35) := jOK_node (F_X6_greatestDivisor_0_ok) (F_X6_greatestDivisor_18_ok)
def F_X6_greatestDivisor : Nat → jT := F_X6_greatestDivisor_0_35
theorem OK_X6_greatestDivisor : jOK Y_X6_greatestDivisor none (F_X6_greatestDivisor) := F_X6_greatestDivisor_0_35_ok
theorem ft_X6_greatestDivisor_0 : F_X6_greatestDivisor 0 = J_iload 0 1 := ftl_X6_greatestDivisor_0
theorem ft_X6_greatestDivisor_1 : F_X6_greatestDivisor 1 = J_istore 2 2 := ftl_X6_greatestDivisor_1
theorem ft_X6_greatestDivisor_2 : F_X6_greatestDivisor 2 = J_iload 1 3 := ftl_X6_greatestDivisor_2
theorem ft_X6_greatestDivisor_3 : F_X6_greatestDivisor 3 = J_istore 3 4 := ftl_X6_greatestDivisor_3
theorem ft_X6_greatestDivisor_4 : F_X6_greatestDivisor 4 = J_iconst 0 5 := ftl_X6_greatestDivisor_4
theorem ft_X6_greatestDivisor_5 : F_X6_greatestDivisor 5 = J_istore 4 7 := ftl_X6_greatestDivisor_5
theorem ft_X6_greatestDivisor_7 : F_X6_greatestDivisor 7 = J_iload 4 9 := ftl_X6_greatestDivisor_7
theorem ft_X6_greatestDivisor_9 : F_X6_greatestDivisor 9 = J_iconst 50 11 := ftl_X6_greatestDivisor_9
theorem ft_X6_greatestDivisor_11 : F_X6_greatestDivisor 11 = J_icge 34 14 := ftl_X6_greatestDivisor_11
theorem ft_X6_greatestDivisor_14 : F_X6_greatestDivisor 14 = J_iload 3 15 := ftl_X6_greatestDivisor_14
theorem ft_X6_greatestDivisor_15 : F_X6_greatestDivisor 15 = J_ifeq 34 18 := ftl_X6_greatestDivisor_15
theorem ft_X6_greatestDivisor_18 : F_X6_greatestDivisor 18 = J_iload 2 19 := ftl_X6_greatestDivisor_18
theorem ft_X6_greatestDivisor_19 : F_X6_greatestDivisor 19 = J_iload 3 20 := ftl_X6_greatestDivisor_19
theorem ft_X6_greatestDivisor_20 : F_X6_greatestDivisor 20 = J_irem 21 := ftl_X6_greatestDivisor_20
theorem ft_X6_greatestDivisor_21 : F_X6_greatestDivisor 21 = J_istore 5 23 := ftl_X6_greatestDivisor_21
theorem ft_X6_greatestDivisor_23 : F_X6_greatestDivisor 23 = J_iload 3 24 := ftl_X6_greatestDivisor_23
theorem ft_X6_greatestDivisor_24 : F_X6_greatestDivisor 24 = J_istore 2 25 := ftl_X6_greatestDivisor_24
theorem ft_X6_greatestDivisor_25 : F_X6_greatestDivisor 25 = J_iload 5 27 := ftl_X6_greatestDivisor_25
theorem ft_X6_greatestDivisor_27 : F_X6_greatestDivisor 27 = J_istore 3 28 := ftl_X6_greatestDivisor_27
theorem ft_X6_greatestDivisor_28 : F_X6_greatestDivisor 28 = J_iinc 4 1 31 := ftl_X6_greatestDivisor_28
theorem ft_X6_greatestDivisor_31 : F_X6_greatestDivisor 31 = J_goto 7 := ftl_X6_greatestDivisor_31
theorem ft_X6_greatestDivisor_34 : F_X6_greatestDivisor 34 = J_iload 2 35 := ftl_X6_greatestDivisor_34
theorem ft_X6_greatestDivisor_35 : F_X6_greatestDivisor 35 = J_ireturn 0 0 := ftl_X6_greatestDivisor_35
theorem lp_X6_greatestDivisor {Q : jQ} {mem : jM} {nb : Nat} {o0 o1 : Int32} : ∀ k j, j + k = 50 → ∀ (a b : Int32) (o : Option Value), Q (some (.int (gdF k a b))) mem → Rn Y_X6_greatestDivisor none Q 7 [some (.int o0), some (.int o1), some (.int a), some (.int b), some (.int (nI j)), o] [] mem (nb, 0, 0) := by
  intro k
  induction k with
  | zero =>
    intro j hj a b o h
    have hc : (50 ≤ nI j) = True := by rw [show j = 50 by omega]; exact eq_true (by decide)
    refine jrun_first OK_X6_greatestDivisor (C := [7]) 40 ?_
    simp -implicitDefEqProofs only [jr_0, jr_1, jr_2, j_iconst, j_lconst, j_iload0, j_aload0, j_istore0, j_astore0, j_iinc0, j_iload1, j_aload1, j_istore1, j_astore1, j_iinc1, j_iload2, j_aload2, j_istore2, j_astore2, j_iinc2, j_iload3, j_aload3, j_istore3, j_astore3, j_iinc3, j_iload4, j_aload4, j_istore4, j_astore4, j_iinc4, j_iload5, j_aload5, j_istore5, j_astore5, j_iinc5, j_iload6, j_aload6, j_istore6, j_astore6, j_iinc6, j_iload7, j_aload7, j_istore7, j_astore7, j_iinc7, j_iload8, j_aload8, j_istore8, j_astore8, j_iinc8, j_iadd, j_isub, j_imul, j_iand, j_ior, j_ixor, j_ishl, j_ishr, j_iushr, j_idiv, j_irem, j_ineg, j_ladd, j_lmul, j_land, j_lor, j_lcmp, j_lushr, j_lshl, j_i2l, j_l2i, j_dupI, j_dupR, j_popI, j_dup2, j_ifeq, j_iceq, j_ifne, j_icne, j_iflt, j_iclt, j_ifge, j_icge, j_ifgt, j_icgt, j_ifle, j_icle, j_goto, j_tsw, j_sw0, j_sw1, j_ireturn, j_zreturn, j_lreturn, j_return, j_getfield, j_putI, j_putJ, j_putR, j_iaload, j_baload, j_iastore, j_bastore, j_aaload, j_q, j_aastore, j_acopy, j_mmin, j_mmax, j_mabs, j_objinit, j_new, j_newI, j_newQ, j_sld, j_slen, j_callV0, j_callI0, j_callS0, j_callV1, j_callI1, j_callS1, j_callV2, j_callI2, j_callS2, j_callV3, j_callS3, j_callV4, j_callS4, j_callV5, j_callS5, j_pushS, j_pushN, j_sh0, j_sh1, j_sh2, j_sh3, j_sh4, Int32.reduceAdd, Int32.reduceMul, Int32.reduceSub, Int32.reduceLT, Int32.reduceLE, eq_self, i32_10, i32_01, ne_eq, hrow_s, hrow_n, ne10, ne100, ne1000, ne7, ne4, ne14, ne9973, or_true, true_or, or_false, false_or, not_true_eq_false, not_false_eq_true, false_implies, implies_true, and_true, forall_const, true_implies, jargs_n, jargs_r, jargs_i, List.cons_append, List.nil_append, true_and, Nat.reduceEqDiff, reduceIte, ft_X6_greatestDivisor_0, ft_X6_greatestDivisor_1, ft_X6_greatestDivisor_2, ft_X6_greatestDivisor_3, ft_X6_greatestDivisor_4, ft_X6_greatestDivisor_5, ft_X6_greatestDivisor_7, ft_X6_greatestDivisor_9, ft_X6_greatestDivisor_11, ft_X6_greatestDivisor_14, ft_X6_greatestDivisor_15, ft_X6_greatestDivisor_18, ft_X6_greatestDivisor_19, ft_X6_greatestDivisor_20, ft_X6_greatestDivisor_21, ft_X6_greatestDivisor_23, ft_X6_greatestDivisor_24, ft_X6_greatestDivisor_25, ft_X6_greatestDivisor_27, ft_X6_greatestDivisor_28, ft_X6_greatestDivisor_31, ft_X6_greatestDivisor_34, ft_X6_greatestDivisor_35, hc]
    exact h
  | succ k ih =>
    intro j hj a b o h
    have hc : (50 ≤ nI j) = False := eq_false (nI_ge (show j < 50 by omega) (by decide))
    refine jrun_first OK_X6_greatestDivisor (C := [7]) 40 ?_
    simp -implicitDefEqProofs only [jr_0, jr_1, jr_2, j_iconst, j_lconst, j_iload0, j_aload0, j_istore0, j_astore0, j_iinc0, j_iload1, j_aload1, j_istore1, j_astore1, j_iinc1, j_iload2, j_aload2, j_istore2, j_astore2, j_iinc2, j_iload3, j_aload3, j_istore3, j_astore3, j_iinc3, j_iload4, j_aload4, j_istore4, j_astore4, j_iinc4, j_iload5, j_aload5, j_istore5, j_astore5, j_iinc5, j_iload6, j_aload6, j_istore6, j_astore6, j_iinc6, j_iload7, j_aload7, j_istore7, j_astore7, j_iinc7, j_iload8, j_aload8, j_istore8, j_astore8, j_iinc8, j_iadd, j_isub, j_imul, j_iand, j_ior, j_ixor, j_ishl, j_ishr, j_iushr, j_idiv, j_irem, j_ineg, j_ladd, j_lmul, j_land, j_lor, j_lcmp, j_lushr, j_lshl, j_i2l, j_l2i, j_dupI, j_dupR, j_popI, j_dup2, j_ifeq, j_iceq, j_ifne, j_icne, j_iflt, j_iclt, j_ifge, j_icge, j_ifgt, j_icgt, j_ifle, j_icle, j_goto, j_tsw, j_sw0, j_sw1, j_ireturn, j_zreturn, j_lreturn, j_return, j_getfield, j_putI, j_putJ, j_putR, j_iaload, j_baload, j_iastore, j_bastore, j_aaload, j_q, j_aastore, j_acopy, j_mmin, j_mmax, j_mabs, j_objinit, j_new, j_newI, j_newQ, j_sld, j_slen, j_callV0, j_callI0, j_callS0, j_callV1, j_callI1, j_callS1, j_callV2, j_callI2, j_callS2, j_callV3, j_callS3, j_callV4, j_callS4, j_callV5, j_callS5, j_pushS, j_pushN, j_sh0, j_sh1, j_sh2, j_sh3, j_sh4, Int32.reduceAdd, Int32.reduceMul, Int32.reduceSub, Int32.reduceLT, Int32.reduceLE, eq_self, i32_10, i32_01, ne_eq, hrow_s, hrow_n, ne10, ne100, ne1000, ne7, ne4, ne14, ne9973, or_true, true_or, or_false, false_or, not_true_eq_false, not_false_eq_true, false_implies, implies_true, and_true, forall_const, true_implies, jargs_n, jargs_r, jargs_i, List.cons_append, List.nil_append, true_and, Nat.reduceEqDiff, reduceIte, ft_X6_greatestDivisor_0, ft_X6_greatestDivisor_1, ft_X6_greatestDivisor_2, ft_X6_greatestDivisor_3, ft_X6_greatestDivisor_4, ft_X6_greatestDivisor_5, ft_X6_greatestDivisor_7, ft_X6_greatestDivisor_9, ft_X6_greatestDivisor_11, ft_X6_greatestDivisor_14, ft_X6_greatestDivisor_15, ft_X6_greatestDivisor_18, ft_X6_greatestDivisor_19, ft_X6_greatestDivisor_20, ft_X6_greatestDivisor_21, ft_X6_greatestDivisor_23, ft_X6_greatestDivisor_24, ft_X6_greatestDivisor_25, ft_X6_greatestDivisor_27, ft_X6_greatestDivisor_28, ft_X6_greatestDivisor_31, ft_X6_greatestDivisor_34, ft_X6_greatestDivisor_35, hc, nI_1]
    unfold gdF at h
    by_cases hb : b = 0
    · rw [if_pos hb] at h
      exact ⟨fun _ => h, fun q => absurd hb q⟩
    · rw [if_neg hb] at h
      exact ⟨fun q => absurd q hb, fun _ => ⟨hb, ih (j + 1) (by omega) _ _ _ h⟩⟩
theorem ok_X6_greatestDivisor : jMeets Y_X6_greatestDivisor S_X6_greatestDivisor := by
  intro nb vs mem Q h
  match vs, h with
  | [.int a, .int b], h =>
    refine Ok.run OK_X6_greatestDivisor [7] 40 [none, none, none, none] pn6 (Nat.le_of_ble_eq_true rfl) rfl ?_
    simp -implicitDefEqProofs only [jr_0, jr_1, jr_2, j_iconst, j_lconst, j_iload0, j_aload0, j_istore0, j_astore0, j_iinc0, j_iload1, j_aload1, j_istore1, j_astore1, j_iinc1, j_iload2, j_aload2, j_istore2, j_astore2, j_iinc2, j_iload3, j_aload3, j_istore3, j_astore3, j_iinc3, j_iload4, j_aload4, j_istore4, j_astore4, j_iinc4, j_iload5, j_aload5, j_istore5, j_astore5, j_iinc5, j_iload6, j_aload6, j_istore6, j_astore6, j_iinc6, j_iload7, j_aload7, j_istore7, j_astore7, j_iinc7, j_iload8, j_aload8, j_istore8, j_astore8, j_iinc8, j_iadd, j_isub, j_imul, j_iand, j_ior, j_ixor, j_ishl, j_ishr, j_iushr, j_idiv, j_irem, j_ineg, j_ladd, j_lmul, j_land, j_lor, j_lcmp, j_lushr, j_lshl, j_i2l, j_l2i, j_dupI, j_dupR, j_popI, j_dup2, j_ifeq, j_iceq, j_ifne, j_icne, j_iflt, j_iclt, j_ifge, j_icge, j_ifgt, j_icgt, j_ifle, j_icle, j_goto, j_tsw, j_sw0, j_sw1, j_ireturn, j_zreturn, j_lreturn, j_return, j_getfield, j_putI, j_putJ, j_putR, j_iaload, j_baload, j_iastore, j_bastore, j_aaload, j_q, j_aastore, j_acopy, j_mmin, j_mmax, j_mabs, j_objinit, j_new, j_newI, j_newQ, j_sld, j_slen, j_callV0, j_callI0, j_callS0, j_callV1, j_callI1, j_callS1, j_callV2, j_callI2, j_callS2, j_callV3, j_callS3, j_callV4, j_callS4, j_callV5, j_callS5, j_pushS, j_pushN, j_sh0, j_sh1, j_sh2, j_sh3, j_sh4, Int32.reduceAdd, Int32.reduceMul, Int32.reduceSub, Int32.reduceLT, Int32.reduceLE, eq_self, i32_10, i32_01, ne_eq, hrow_s, hrow_n, ne10, ne100, ne1000, ne7, ne4, ne14, ne9973, or_true, true_or, or_false, false_or, not_true_eq_false, not_false_eq_true, false_implies, implies_true, and_true, forall_const, true_implies, jargs_n, jargs_r, jargs_i, List.cons_append, List.nil_append, true_and, Nat.reduceEqDiff, reduceIte, ft_X6_greatestDivisor_0, ft_X6_greatestDivisor_1, ft_X6_greatestDivisor_2, ft_X6_greatestDivisor_3, ft_X6_greatestDivisor_4, ft_X6_greatestDivisor_5, ft_X6_greatestDivisor_7, ft_X6_greatestDivisor_9, ft_X6_greatestDivisor_11, ft_X6_greatestDivisor_14, ft_X6_greatestDivisor_15, ft_X6_greatestDivisor_18, ft_X6_greatestDivisor_19, ft_X6_greatestDivisor_20, ft_X6_greatestDivisor_21, ft_X6_greatestDivisor_23, ft_X6_greatestDivisor_24, ft_X6_greatestDivisor_25, ft_X6_greatestDivisor_27, ft_X6_greatestDivisor_28, ft_X6_greatestDivisor_31, ft_X6_greatestDivisor_34, ft_X6_greatestDivisor_35]
    exact lp_X6_greatestDivisor 50 0 rfl a b none h
def lowF (over under upper : Int32) : Int32 := if gdF 50 (absF over) under = 0 then (if upper = 0 then under else over) else (if upper = 0 then under else over) / gdF 50 (absF over) under
def F_X6_lowest_0 : Nat → jT := fun pc => (bif Nat.blt pc 9 then (bif Nat.blt pc 4 then (bif Nat.blt pc 1 then (bif Nat.beq pc 0 then J_iload 0 1 else jbad) else (bif Nat.beq pc 1 then J_mabs 4 else jbad)) else (bif Nat.blt pc 5 then (bif Nat.beq pc 4 then J_iload 1 5 else jbad) else (bif Nat.blt pc 8 then (bif Nat.beq pc 5 then J_callS S_X6_greatestDivisor 2 8 else jbad) else (bif Nat.beq pc 8 then J_istore 3 9 else jbad)))) else (bif Nat.blt pc 13 then (bif Nat.blt pc 10 then (bif Nat.beq pc 9 then J_iload 3 10 else jbad) else (bif Nat.beq pc 10 then J_ifne 23 13 else jbad)) else (bif Nat.blt pc 14 then (bif Nat.beq pc 13 then J_iload 2 14 else jbad) else (bif Nat.blt pc 17 then (bif Nat.beq pc 14 then J_ifeq 21 17 else jbad) else (bif Nat.beq pc 17 then J_iload 0 18 else jbad)))))
theorem ftl_X6_lowest_0 : F_X6_lowest_0 0 = J_iload 0 1 := rfl
theorem ftl_X6_lowest_1 : F_X6_lowest_0 1 = J_mabs 4 := rfl
theorem ftl_X6_lowest_4 : F_X6_lowest_0 4 = J_iload 1 5 := rfl
theorem ftl_X6_lowest_5 : F_X6_lowest_0 5 = J_callS S_X6_greatestDivisor 2 8 := rfl
theorem ftl_X6_lowest_8 : F_X6_lowest_0 8 = J_istore 3 9 := rfl
theorem ftl_X6_lowest_9 : F_X6_lowest_0 9 = J_iload 3 10 := rfl
theorem ftl_X6_lowest_10 : F_X6_lowest_0 10 = J_ifne 23 13 := rfl
theorem ftl_X6_lowest_13 : F_X6_lowest_0 13 = J_iload 2 14 := rfl
theorem ftl_X6_lowest_14 : F_X6_lowest_0 14 = J_ifeq 21 17 := rfl
theorem ftl_X6_lowest_17 : F_X6_lowest_0 17 = J_iload 0 18 := rfl
theorem F_X6_lowest_0_ok : jOK Y_X6_lowest none (F_X6_lowest_0) := (jOK_node (jOK_node (jOK_node (jOK_leaf (sn_iload_n dX6_lowest_0 rfl rfl)) (jOK_leaf (sn_mabs dX6_lowest_1 rfl tw_572 tw_573 tw_10 tw_574 ⟨by decide, by decide⟩))) (jOK_node (jOK_leaf (sn_iload_n dX6_lowest_4 rfl rfl)) (jOK_node (jOK_leaf (sn_callS (Y' := Y_X6_greatestDivisor) ok_X6_greatestDivisor dX6_lowest_5 rfl rfl tw_575 tw_576 tw_1 jc_X6_greatestDivisor ⟨by decide, by decide, rfl⟩ ⟨by decide, by decide⟩)) (jOK_leaf (sn_istore_n dX6_lowest_8 rfl rfl (by decide)))))) (jOK_node (jOK_node (jOK_leaf (sn_iload_n dX6_lowest_9 rfl rfl)) (jOK_leaf (sn_ifne dX6_lowest_10 rfl rfl))) (jOK_node (jOK_leaf (sn_iload_n dX6_lowest_13 rfl rfl)) (jOK_node (jOK_leaf (sn_ifeq dX6_lowest_14 rfl rfl)) (jOK_leaf (sn_iload_n dX6_lowest_17 rfl rfl))))))
def F_X6_lowest_18 : Nat → jT := fun pc => (bif Nat.blt pc 27 then (bif Nat.blt pc 22 then (bif Nat.blt pc 21 then (bif Nat.beq pc 18 then J_goto 22 else jbad) else (bif Nat.beq pc 21 then J_iload 1 22 else jbad)) else (bif Nat.blt pc 23 then (bif Nat.beq pc 22 then J_ireturn 0 0 else jbad) else (bif Nat.blt pc 24 then (bif Nat.beq pc 23 then J_iload 2 24 else jbad) else (bif Nat.beq pc 24 then J_ifeq 31 27 else jbad)))) else (bif Nat.blt pc 32 then (bif Nat.blt pc 28 then (bif Nat.beq pc 27 then J_iload 0 28 else jbad) else (bif Nat.blt pc 31 then (bif Nat.beq pc 28 then J_goto 32 else jbad) else (bif Nat.beq pc 31 then J_iload 1 32 else jbad))) else (bif Nat.blt pc 33 then (bif Nat.beq pc 32 then J_iload 3 33 else jbad) else (bif Nat.blt pc 34 then (bif Nat.beq pc 33 then J_idiv 34 else jbad) else (bif Nat.beq pc 34 then J_ireturn 0 0 else jbad)))))
theorem ftl_X6_lowest_18 : F_X6_lowest_18 18 = J_goto 22 := rfl
theorem ftl_X6_lowest_21 : F_X6_lowest_18 21 = J_iload 1 22 := rfl
theorem ftl_X6_lowest_22 : F_X6_lowest_18 22 = J_ireturn 0 0 := rfl
theorem ftl_X6_lowest_23 : F_X6_lowest_18 23 = J_iload 2 24 := rfl
theorem ftl_X6_lowest_24 : F_X6_lowest_18 24 = J_ifeq 31 27 := rfl
theorem ftl_X6_lowest_27 : F_X6_lowest_18 27 = J_iload 0 28 := rfl
theorem ftl_X6_lowest_28 : F_X6_lowest_18 28 = J_goto 32 := rfl
theorem ftl_X6_lowest_31 : F_X6_lowest_18 31 = J_iload 1 32 := rfl
theorem ftl_X6_lowest_32 : F_X6_lowest_18 32 = J_iload 3 33 := rfl
theorem ftl_X6_lowest_33 : F_X6_lowest_18 33 = J_idiv 34 := rfl
theorem ftl_X6_lowest_34 : F_X6_lowest_18 34 = J_ireturn 0 0 := rfl
theorem F_X6_lowest_18_ok : jOK Y_X6_lowest none (F_X6_lowest_18) := (jOK_node (jOK_node (jOK_node (jOK_leaf (sn_goto dX6_lowest_18 rfl)) (jOK_leaf (sn_iload_n dX6_lowest_21 rfl rfl))) (jOK_node (jOK_leaf (sn_ireturn dX6_lowest_22 rfl rfl)) (jOK_node (jOK_leaf (sn_iload_n dX6_lowest_23 rfl rfl)) (jOK_leaf (sn_ifeq dX6_lowest_24 rfl rfl))))) (jOK_node (jOK_node (jOK_leaf (sn_iload_n dX6_lowest_27 rfl rfl)) (jOK_node (jOK_leaf (sn_goto dX6_lowest_28 rfl)) (jOK_leaf (sn_iload_n dX6_lowest_31 rfl rfl)))) (jOK_node (jOK_leaf (sn_iload_n dX6_lowest_32 rfl rfl)) (jOK_node (jOK_leaf (sn_idiv dX6_lowest_33 rfl)) (jOK_leaf (sn_ireturn dX6_lowest_34 rfl rfl))))))
def F_X6_lowest_0_34 : Nat → jT := fun pc => bif Nat.blt pc 18 then F_X6_lowest_0 pc else F_X6_lowest_18 pc
theorem F_X6_lowest_0_34_ok : jOK Y_X6_lowest none (F_X6_lowest_0_34) := jOK_node (F_X6_lowest_0_ok) (F_X6_lowest_18_ok)
def F_X6_lowest : Nat → jT := F_X6_lowest_0_34
theorem OK_X6_lowest : jOK Y_X6_lowest none (F_X6_lowest) := F_X6_lowest_0_34_ok
theorem ft_X6_lowest_0 : F_X6_lowest 0 = J_iload 0 1 := ftl_X6_lowest_0
theorem ft_X6_lowest_1 : F_X6_lowest 1 = J_mabs 4 := ftl_X6_lowest_1
theorem ft_X6_lowest_4 : F_X6_lowest 4 = J_iload 1 5 := ftl_X6_lowest_4
theorem ft_X6_lowest_5 : F_X6_lowest 5 = J_callS S_X6_greatestDivisor 2 8 := ftl_X6_lowest_5
theorem ft_X6_lowest_8 : F_X6_lowest 8 = J_istore 3 9 := ftl_X6_lowest_8
theorem ft_X6_lowest_9 : F_X6_lowest 9 = J_iload 3 10 := ftl_X6_lowest_9
theorem ft_X6_lowest_10 : F_X6_lowest 10 = J_ifne 23 13 := ftl_X6_lowest_10
theorem ft_X6_lowest_13 : F_X6_lowest 13 = J_iload 2 14 := ftl_X6_lowest_13
theorem ft_X6_lowest_14 : F_X6_lowest 14 = J_ifeq 21 17 := ftl_X6_lowest_14
theorem ft_X6_lowest_17 : F_X6_lowest 17 = J_iload 0 18 := ftl_X6_lowest_17
theorem ft_X6_lowest_18 : F_X6_lowest 18 = J_goto 22 := ftl_X6_lowest_18
theorem ft_X6_lowest_21 : F_X6_lowest 21 = J_iload 1 22 := ftl_X6_lowest_21
theorem ft_X6_lowest_22 : F_X6_lowest 22 = J_ireturn 0 0 := ftl_X6_lowest_22
theorem ft_X6_lowest_23 : F_X6_lowest 23 = J_iload 2 24 := ftl_X6_lowest_23
theorem ft_X6_lowest_24 : F_X6_lowest 24 = J_ifeq 31 27 := ftl_X6_lowest_24
theorem ft_X6_lowest_27 : F_X6_lowest 27 = J_iload 0 28 := ftl_X6_lowest_27
theorem ft_X6_lowest_28 : F_X6_lowest 28 = J_goto 32 := ftl_X6_lowest_28
theorem ft_X6_lowest_31 : F_X6_lowest 31 = J_iload 1 32 := ftl_X6_lowest_31
theorem ft_X6_lowest_32 : F_X6_lowest 32 = J_iload 3 33 := ftl_X6_lowest_32
theorem ft_X6_lowest_33 : F_X6_lowest 33 = J_idiv 34 := ftl_X6_lowest_33
theorem ft_X6_lowest_34 : F_X6_lowest 34 = J_ireturn 0 0 := ftl_X6_lowest_34
def S_X6_lowest : jSp := fun nb vs mem Q => jcs vs ≤ 4 ∧ jrun F_X6_lowest [] 60 Q (fun _ _ _ _ _ => False) 0 (jargs vs ++ [none]) [] mem (nb, 0, 0)
theorem ok_X6_lowest : jMeets Y_X6_lowest S_X6_lowest := fun _ _ _ _ h => Ok.inl OK_X6_lowest 60 [none] pn6 rfl h
theorem s_X6_lowest {nb : Nat} {mem : jM} {a b u : Int32} {Q : jQ} : S_X6_lowest nb [.int a, .int b, .int u] mem Q = Q (some (.int (lowF a b u))) mem := by
  refine (eq_le rfl).trans ?_
  simp -implicitDefEqProofs only [jr_0, jr_1, jr_2, j_iconst, j_lconst, j_iload0, j_aload0, j_istore0, j_astore0, j_iinc0, j_iload1, j_aload1, j_istore1, j_astore1, j_iinc1, j_iload2, j_aload2, j_istore2, j_astore2, j_iinc2, j_iload3, j_aload3, j_istore3, j_astore3, j_iinc3, j_iload4, j_aload4, j_istore4, j_astore4, j_iinc4, j_iload5, j_aload5, j_istore5, j_astore5, j_iinc5, j_iload6, j_aload6, j_istore6, j_astore6, j_iinc6, j_iload7, j_aload7, j_istore7, j_astore7, j_iinc7, j_iload8, j_aload8, j_istore8, j_astore8, j_iinc8, j_iadd, j_isub, j_imul, j_iand, j_ior, j_ixor, j_ishl, j_ishr, j_iushr, j_idiv, j_irem, j_ineg, j_ladd, j_lmul, j_land, j_lor, j_lcmp, j_lushr, j_lshl, j_i2l, j_l2i, j_dupI, j_dupR, j_popI, j_dup2, j_ifeq, j_iceq, j_ifne, j_icne, j_iflt, j_iclt, j_ifge, j_icge, j_ifgt, j_icgt, j_ifle, j_icle, j_goto, j_tsw, j_sw0, j_sw1, j_ireturn, j_zreturn, j_lreturn, j_return, j_getfield, j_putI, j_putJ, j_putR, j_iaload, j_baload, j_iastore, j_bastore, j_aaload, j_q, j_aastore, j_acopy, j_mmin, j_mmax, j_mabs, j_objinit, j_new, j_newI, j_newQ, j_sld, j_slen, j_callV0, j_callI0, j_callS0, j_callV1, j_callI1, j_callS1, j_callV2, j_callI2, j_callS2, j_callV3, j_callS3, j_callV4, j_callS4, j_callV5, j_callS5, j_pushS, j_pushN, j_sh0, j_sh1, j_sh2, j_sh3, j_sh4, Int32.reduceAdd, Int32.reduceMul, Int32.reduceSub, Int32.reduceLT, Int32.reduceLE, eq_self, i32_10, i32_01, ne_eq, hrow_s, hrow_n, ne10, ne100, ne1000, ne7, ne4, ne14, ne9973, or_true, true_or, or_false, false_or, not_true_eq_false, not_false_eq_true, false_implies, implies_true, and_true, forall_const, true_implies, jargs_n, jargs_r, jargs_i, List.cons_append, List.nil_append, true_and, Nat.reduceEqDiff, reduceIte, ft_X6_lowest_0, ft_X6_lowest_1, ft_X6_lowest_4, ft_X6_lowest_5, ft_X6_lowest_8, ft_X6_lowest_9, ft_X6_lowest_10, ft_X6_lowest_13, ft_X6_lowest_14, ft_X6_lowest_17, ft_X6_lowest_18, ft_X6_lowest_21, ft_X6_lowest_22, ft_X6_lowest_23, ft_X6_lowest_24, ft_X6_lowest_27, ft_X6_lowest_28, ft_X6_lowest_31, ft_X6_lowest_32, ft_X6_lowest_33, ft_X6_lowest_34, s_X6_greatestDivisor]
  unfold lowF
  generalize gdF 50 (absF a) b = g
  by_cases h : g = 0 <;> by_cases h2 : u = 0 <;> simp [h, h2]
/-! Text -/
def byteF (f : Nat → Int32) (len at_ : Int32) : Int32 := if at_ < 0 ∨ len ≤ at_ ∨ 70 ≤ at_ then -1 else f at_.toNatClampNeg
theorem vp_in70 {p : Int32} (h0 : ¬ p < 0) (h1 : p < 70) : vp_in p 70 := by
  rcases pk_ix p (n := 70) (by decide) with q | q | ⟨j, hj, rfl⟩
  · exact absurd q h0
  · exact absurd h1 (Int32.not_lt.mpr q)
  · exact vp_in_nI hj (by decide)
def F_X5_byteAt_0 : Nat → jT := fun pc => (bif Nat.blt pc 15 then (bif Nat.blt pc 6 then (bif Nat.blt pc 4 then (bif Nat.blt pc 1 then (bif Nat.beq pc 0 then J_iload 1 1 else jbad) else (bif Nat.beq pc 1 then J_iflt 18 4 else jbad)) else (bif Nat.blt pc 5 then (bif Nat.beq pc 4 then J_iload 1 5 else jbad) else (bif Nat.beq pc 5 then J_aload 0 6 else jbad))) else (bif Nat.blt pc 12 then (bif Nat.blt pc 9 then (bif Nat.beq pc 6 then J_getfield 5 1 9 else jbad) else (bif Nat.beq pc 9 then J_icge 18 12 else jbad)) else (bif Nat.blt pc 13 then (bif Nat.beq pc 12 then J_iload 1 13 else jbad) else (bif Nat.beq pc 13 then J_iconst 70 15 else jbad)))) else (bif Nat.blt pc 23 then (bif Nat.blt pc 19 then (bif Nat.blt pc 18 then (bif Nat.beq pc 15 then J_iclt 22 18 else jbad) else (bif Nat.beq pc 18 then J_iconst (-1) 19 else jbad)) else (bif Nat.blt pc 22 then (bif Nat.beq pc 19 then J_goto 28 else jbad) else (bif Nat.beq pc 22 then J_aload 0 23 else jbad))) else (bif Nat.blt pc 27 then (bif Nat.blt pc 26 then (bif Nat.beq pc 23 then J_getfield 5 0 26 else jbad) else (bif Nat.beq pc 26 then J_iload 1 27 else jbad)) else (bif Nat.blt pc 28 then (bif Nat.beq pc 27 then J_iaload 28 else jbad) else (bif Nat.beq pc 28 then J_ireturn 0 0 else jbad)))))
theorem ftl_X5_byteAt_0 : F_X5_byteAt_0 0 = J_iload 1 1 := rfl
theorem ftl_X5_byteAt_1 : F_X5_byteAt_0 1 = J_iflt 18 4 := rfl
theorem ftl_X5_byteAt_4 : F_X5_byteAt_0 4 = J_iload 1 5 := rfl
theorem ftl_X5_byteAt_5 : F_X5_byteAt_0 5 = J_aload 0 6 := rfl
theorem ftl_X5_byteAt_6 : F_X5_byteAt_0 6 = J_getfield 5 1 9 := rfl
theorem ftl_X5_byteAt_9 : F_X5_byteAt_0 9 = J_icge 18 12 := rfl
theorem ftl_X5_byteAt_12 : F_X5_byteAt_0 12 = J_iload 1 13 := rfl
theorem ftl_X5_byteAt_13 : F_X5_byteAt_0 13 = J_iconst 70 15 := rfl
theorem ftl_X5_byteAt_15 : F_X5_byteAt_0 15 = J_iclt 22 18 := rfl
theorem ftl_X5_byteAt_18 : F_X5_byteAt_0 18 = J_iconst (-1) 19 := rfl
theorem ftl_X5_byteAt_19 : F_X5_byteAt_0 19 = J_goto 28 := rfl
theorem ftl_X5_byteAt_22 : F_X5_byteAt_0 22 = J_aload 0 23 := rfl
theorem ftl_X5_byteAt_23 : F_X5_byteAt_0 23 = J_getfield 5 0 26 := rfl
theorem ftl_X5_byteAt_26 : F_X5_byteAt_0 26 = J_iload 1 27 := rfl
theorem ftl_X5_byteAt_27 : F_X5_byteAt_0 27 = J_iaload 28 := rfl
theorem ftl_X5_byteAt_28 : F_X5_byteAt_0 28 = J_ireturn 0 0 := rfl
theorem F_X5_byteAt_0_ok : jOK Y_X5_byteAt none (F_X5_byteAt_0) := (jOK_node (jOK_node (jOK_node (jOK_node (jOK_leaf (sn_iload_n dX5_byteAt_0 rfl rfl)) (jOK_leaf (sn_iflt dX5_byteAt_1 rfl rfl))) (jOK_node (jOK_leaf (sn_iload_n dX5_byteAt_4 rfl rfl)) (jOK_leaf (sn_aload_n dX5_byteAt_5 rfl rfl)))) (jOK_node (jOK_node (jOK_leaf (sn_getfield dX5_byteAt_6 rfl rfl (by decide) tw_27 jin5)) (jOK_leaf (sn_icge dX5_byteAt_9 rfl rfl))) (jOK_node (jOK_leaf (sn_iload_n dX5_byteAt_12 rfl rfl)) (jOK_leaf (sn_bipush dX5_byteAt_13 rfl rfl))))) (jOK_node (jOK_node (jOK_node (jOK_leaf (sn_iclt dX5_byteAt_15 rfl rfl)) (jOK_leaf (sn_iconst dX5_byteAt_18 rfl rfl))) (jOK_node (jOK_leaf (sn_goto dX5_byteAt_19 rfl)) (jOK_leaf (sn_aload_n dX5_byteAt_22 rfl rfl)))) (jOK_node (jOK_node (jOK_leaf (sn_getfield dX5_byteAt_23 rfl rfl (by decide) tw_26 jin5)) (jOK_leaf (sn_iload_n dX5_byteAt_26 rfl rfl))) (jOK_node (jOK_leaf (sn_iaload dX5_byteAt_27 rfl)) (jOK_leaf (sn_ireturn dX5_byteAt_28 rfl rfl))))))
def F_X5_byteAt : Nat → jT := F_X5_byteAt_0
theorem OK_X5_byteAt : jOK Y_X5_byteAt none (F_X5_byteAt) := F_X5_byteAt_0_ok
theorem ft_X5_byteAt_0 : F_X5_byteAt 0 = J_iload 1 1 := ftl_X5_byteAt_0
theorem ft_X5_byteAt_1 : F_X5_byteAt 1 = J_iflt 18 4 := ftl_X5_byteAt_1
theorem ft_X5_byteAt_4 : F_X5_byteAt 4 = J_iload 1 5 := ftl_X5_byteAt_4
theorem ft_X5_byteAt_5 : F_X5_byteAt 5 = J_aload 0 6 := ftl_X5_byteAt_5
theorem ft_X5_byteAt_6 : F_X5_byteAt 6 = J_getfield 5 1 9 := ftl_X5_byteAt_6
theorem ft_X5_byteAt_9 : F_X5_byteAt 9 = J_icge 18 12 := ftl_X5_byteAt_9
theorem ft_X5_byteAt_12 : F_X5_byteAt 12 = J_iload 1 13 := ftl_X5_byteAt_12
theorem ft_X5_byteAt_13 : F_X5_byteAt 13 = J_iconst 70 15 := ftl_X5_byteAt_13
theorem ft_X5_byteAt_15 : F_X5_byteAt 15 = J_iclt 22 18 := ftl_X5_byteAt_15
theorem ft_X5_byteAt_18 : F_X5_byteAt 18 = J_iconst (-1) 19 := ftl_X5_byteAt_18
theorem ft_X5_byteAt_19 : F_X5_byteAt 19 = J_goto 28 := ftl_X5_byteAt_19
theorem ft_X5_byteAt_22 : F_X5_byteAt 22 = J_aload 0 23 := ftl_X5_byteAt_22
theorem ft_X5_byteAt_23 : F_X5_byteAt 23 = J_getfield 5 0 26 := ftl_X5_byteAt_23
theorem ft_X5_byteAt_26 : F_X5_byteAt 26 = J_iload 1 27 := ftl_X5_byteAt_26
theorem ft_X5_byteAt_27 : F_X5_byteAt 27 = J_iaload 28 := ftl_X5_byteAt_27
theorem ft_X5_byteAt_28 : F_X5_byteAt 28 = J_ireturn 0 0 := ftl_X5_byteAt_28
def S_X5_byteAt : jSp := fun nb vs mem Q => jcs vs ≤ 2 ∧ jrun F_X5_byteAt [] 40 Q (fun _ _ _ _ _ => False) 0 (jargs vs ++ []) [] mem (nb, 0, 0)
theorem ok_X5_byteAt : jMeets Y_X5_byteAt S_X5_byteAt := fun _ _ _ _ h => Ok.inl OK_X5_byteAt 40 [] pn5 rfl h
theorem s_X5_byteAt {nb : Nat} {C : Nat → Nat → Int32} {z : Nat → Int64} {p : Int32} {Q : jQ} : S_X5_byteAt nb [.ref 1, .int p] (memS 94 C z) Q = Q (some (.int (byteF (C 2) (C 1 1) p))) (memS 94 C z) := by
  refine (eq_le rfl).trans ?_
  simp -implicitDefEqProofs only [jr_0, jr_1, jr_2, j_iconst, j_lconst, j_iload0, j_aload0, j_istore0, j_astore0, j_iinc0, j_iload1, j_aload1, j_istore1, j_astore1, j_iinc1, j_iload2, j_aload2, j_istore2, j_astore2, j_iinc2, j_iload3, j_aload3, j_istore3, j_astore3, j_iinc3, j_iload4, j_aload4, j_istore4, j_astore4, j_iinc4, j_iload5, j_aload5, j_istore5, j_astore5, j_iinc5, j_iload6, j_aload6, j_istore6, j_astore6, j_iinc6, j_iload7, j_aload7, j_istore7, j_astore7, j_iinc7, j_iload8, j_aload8, j_istore8, j_astore8, j_iinc8, j_iadd, j_isub, j_imul, j_iand, j_ior, j_ixor, j_ishl, j_ishr, j_iushr, j_idiv, j_irem, j_ineg, j_ladd, j_lmul, j_land, j_lor, j_lcmp, j_lushr, j_lshl, j_i2l, j_l2i, j_dupI, j_dupR, j_popI, j_dup2, j_ifeq, j_iceq, j_ifne, j_icne, j_iflt, j_iclt, j_ifge, j_icge, j_ifgt, j_icgt, j_ifle, j_icle, j_goto, j_tsw, j_sw0, j_sw1, j_ireturn, j_zreturn, j_lreturn, j_return, j_getfield, j_putI, j_putJ, j_putR, j_iaload, j_baload, j_iastore, j_bastore, j_aaload, j_q, j_aastore, j_acopy, j_mmin, j_mmax, j_mabs, j_objinit, j_new, j_newI, j_newQ, j_sld, j_slen, j_callV0, j_callI0, j_callS0, j_callV1, j_callI1, j_callS1, j_callV2, j_callI2, j_callS2, j_callV3, j_callS3, j_callV4, j_callS4, j_callV5, j_callS5, j_pushS, j_pushN, j_sh0, j_sh1, j_sh2, j_sh3, j_sh4, Int32.reduceAdd, Int32.reduceMul, Int32.reduceSub, Int32.reduceLT, Int32.reduceLE, eq_self, i32_10, i32_01, ne_eq, hrow_s, hrow_n, ne10, ne100, ne1000, ne7, ne4, ne14, ne9973, or_true, true_or, or_false, false_or, not_true_eq_false, not_false_eq_true, false_implies, implies_true, and_true, forall_const, true_implies, jargs_n, jargs_r, jargs_i, List.cons_append, List.nil_append, true_and, Nat.reduceEqDiff, reduceIte, ft_X5_byteAt_0, ft_X5_byteAt_1, ft_X5_byteAt_4, ft_X5_byteAt_5, ft_X5_byteAt_6, ft_X5_byteAt_9, ft_X5_byteAt_12, ft_X5_byteAt_13, ft_X5_byteAt_15, ft_X5_byteAt_18, ft_X5_byteAt_19, ft_X5_byteAt_22, ft_X5_byteAt_23, ft_X5_byteAt_26, ft_X5_byteAt_27, ft_X5_byteAt_28, fl_1_0, fl_1_1, al_2]
  have := @vp_in70 p
  grind [byteF]
def F_X5_digitAt_0 : Nat → jT := fun pc => (bif Nat.blt pc 5 then (bif Nat.blt pc 1 then (bif Nat.beq pc 0 then J_aload 0 1 else jbad) else (bif Nat.blt pc 2 then (bif Nat.beq pc 1 then J_iload 1 2 else jbad) else (bif Nat.beq pc 2 then J_callV 5 S_X5_byteAt 1 5 else jbad))) else (bif Nat.blt pc 7 then (bif Nat.beq pc 5 then J_iconst 48 7 else jbad) else (bif Nat.blt pc 8 then (bif Nat.beq pc 7 then J_isub 8 else jbad) else (bif Nat.beq pc 8 then J_ireturn 0 0 else jbad))))
theorem ftl_X5_digitAt_0 : F_X5_digitAt_0 0 = J_aload 0 1 := rfl
theorem ftl_X5_digitAt_1 : F_X5_digitAt_0 1 = J_iload 1 2 := rfl
theorem ftl_X5_digitAt_2 : F_X5_digitAt_0 2 = J_callV 5 S_X5_byteAt 1 5 := rfl
theorem ftl_X5_digitAt_5 : F_X5_digitAt_0 5 = J_iconst 48 7 := rfl
theorem ftl_X5_digitAt_7 : F_X5_digitAt_0 7 = J_isub 8 := rfl
theorem ftl_X5_digitAt_8 : F_X5_digitAt_0 8 = J_ireturn 0 0 := rfl
theorem F_X5_digitAt_0_ok : jOK Y_X5_digitAt none (F_X5_digitAt_0) := (jOK_node (jOK_node (jOK_leaf (sn_aload_n dX5_digitAt_0 rfl rfl)) (jOK_node (jOK_leaf (sn_iload_n dX5_digitAt_1 rfl rfl)) (jOK_leaf (sn_callV (Y' := Y_X5_byteAt) ok_X5_byteAt dX5_digitAt_2 rfl rfl rfl tw_224 tw_225 tw_226 tw_2 jc_X5_byteAt rfl ⟨by decide, by decide, rfl⟩ ⟨by decide, by decide⟩)))) (jOK_node (jOK_leaf (sn_bipush dX5_digitAt_5 rfl rfl)) (jOK_node (jOK_leaf (sn_isub dX5_digitAt_7 rfl)) (jOK_leaf (sn_ireturn dX5_digitAt_8 rfl rfl)))))
def F_X5_digitAt : Nat → jT := F_X5_digitAt_0
theorem OK_X5_digitAt : jOK Y_X5_digitAt none (F_X5_digitAt) := F_X5_digitAt_0_ok
theorem ft_X5_digitAt_0 : F_X5_digitAt 0 = J_aload 0 1 := ftl_X5_digitAt_0
theorem ft_X5_digitAt_1 : F_X5_digitAt 1 = J_iload 1 2 := ftl_X5_digitAt_1
theorem ft_X5_digitAt_2 : F_X5_digitAt 2 = J_callV 5 S_X5_byteAt 1 5 := ftl_X5_digitAt_2
theorem ft_X5_digitAt_5 : F_X5_digitAt 5 = J_iconst 48 7 := ftl_X5_digitAt_5
theorem ft_X5_digitAt_7 : F_X5_digitAt 7 = J_isub 8 := ftl_X5_digitAt_7
theorem ft_X5_digitAt_8 : F_X5_digitAt 8 = J_ireturn 0 0 := ftl_X5_digitAt_8
def S_X5_digitAt : jSp := fun nb vs mem Q => jcs vs ≤ 2 ∧ jrun F_X5_digitAt [] 40 Q (fun _ _ _ _ _ => False) 0 (jargs vs ++ []) [] mem (nb, 0, 0)
theorem ok_X5_digitAt : jMeets Y_X5_digitAt S_X5_digitAt := fun _ _ _ _ h => Ok.inl OK_X5_digitAt 40 [] pn5 rfl h
theorem s_X5_digitAt {nb : Nat} {C : Nat → Nat → Int32} {z : Nat → Int64} {p : Int32} {Q : jQ} : S_X5_digitAt nb [.ref 1, .int p] (memS 94 C z) Q = Q (some (.int (byteF (C 2) (C 1 1) p - 48))) (memS 94 C z) := by
  refine (eq_le rfl).trans ?_
  simp -implicitDefEqProofs only [jr_0, jr_1, jr_2, j_iconst, j_lconst, j_iload0, j_aload0, j_istore0, j_astore0, j_iinc0, j_iload1, j_aload1, j_istore1, j_astore1, j_iinc1, j_iload2, j_aload2, j_istore2, j_astore2, j_iinc2, j_iload3, j_aload3, j_istore3, j_astore3, j_iinc3, j_iload4, j_aload4, j_istore4, j_astore4, j_iinc4, j_iload5, j_aload5, j_istore5, j_astore5, j_iinc5, j_iload6, j_aload6, j_istore6, j_astore6, j_iinc6, j_iload7, j_aload7, j_istore7, j_astore7, j_iinc7, j_iload8, j_aload8, j_istore8, j_astore8, j_iinc8, j_iadd, j_isub, j_imul, j_iand, j_ior, j_ixor, j_ishl, j_ishr, j_iushr, j_idiv, j_irem, j_ineg, j_ladd, j_lmul, j_land, j_lor, j_lcmp, j_lushr, j_lshl, j_i2l, j_l2i, j_dupI, j_dupR, j_popI, j_dup2, j_ifeq, j_iceq, j_ifne, j_icne, j_iflt, j_iclt, j_ifge, j_icge, j_ifgt, j_icgt, j_ifle, j_icle, j_goto, j_tsw, j_sw0, j_sw1, j_ireturn, j_zreturn, j_lreturn, j_return, j_getfield, j_putI, j_putJ, j_putR, j_iaload, j_baload, j_iastore, j_bastore, j_aaload, j_q, j_aastore, j_acopy, j_mmin, j_mmax, j_mabs, j_objinit, j_new, j_newI, j_newQ, j_sld, j_slen, j_callV0, j_callI0, j_callS0, j_callV1, j_callI1, j_callS1, j_callV2, j_callI2, j_callS2, j_callV3, j_callS3, j_callV4, j_callS4, j_callV5, j_callS5, j_pushS, j_pushN, j_sh0, j_sh1, j_sh2, j_sh3, j_sh4, Int32.reduceAdd, Int32.reduceMul, Int32.reduceSub, Int32.reduceLT, Int32.reduceLE, eq_self, i32_10, i32_01, ne_eq, hrow_s, hrow_n, ne10, ne100, ne1000, ne7, ne4, ne14, ne9973, or_true, true_or, or_false, false_or, not_true_eq_false, not_false_eq_true, false_implies, implies_true, and_true, forall_const, true_implies, jargs_n, jargs_r, jargs_i, List.cons_append, List.nil_append, true_and, Nat.reduceEqDiff, reduceIte, ft_X5_digitAt_0, ft_X5_digitAt_1, ft_X5_digitAt_2, ft_X5_digitAt_5, ft_X5_digitAt_7, ft_X5_digitAt_8, rc_1, s_X5_byteAt]
def dgF (f : Nat → Int32) (len p a b : Int32) : Prop := a ≤ byteF f len p - 48 ∧ byteF f len p - 48 ≤ b
def F_X5_isDigit_0 : Nat → jT := fun pc => (bif Nat.blt pc 13 then (bif Nat.blt pc 5 then (bif Nat.blt pc 1 then (bif Nat.beq pc 0 then J_aload 0 1 else jbad) else (bif Nat.blt pc 2 then (bif Nat.beq pc 1 then J_iload 1 2 else jbad) else (bif Nat.beq pc 2 then J_callV 5 S_X5_digitAt 1 5 else jbad))) else (bif Nat.blt pc 9 then (bif Nat.blt pc 7 then (bif Nat.beq pc 5 then J_istore 4 7 else jbad) else (bif Nat.beq pc 7 then J_iload 4 9 else jbad)) else (bif Nat.blt pc 10 then (bif Nat.beq pc 9 then J_iload 2 10 else jbad) else (bif Nat.beq pc 10 then J_iclt 23 13 else jbad)))) else (bif Nat.blt pc 19 then (bif Nat.blt pc 15 then (bif Nat.beq pc 13 then J_iload 4 15 else jbad) else (bif Nat.blt pc 16 then (bif Nat.beq pc 15 then J_iload 3 16 else jbad) else (bif Nat.beq pc 16 then J_icgt 23 19 else jbad))) else (bif Nat.blt pc 23 then (bif Nat.blt pc 20 then (bif Nat.beq pc 19 then J_iconst 1 20 else jbad) else (bif Nat.beq pc 20 then J_goto 24 else jbad)) else (bif Nat.blt pc 24 then (bif Nat.beq pc 23 then J_iconst 0 24 else jbad) else (bif Nat.beq pc 24 then J_zreturn 0 0 else jbad)))))
theorem ftl_X5_isDigit_0 : F_X5_isDigit_0 0 = J_aload 0 1 := rfl
theorem ftl_X5_isDigit_1 : F_X5_isDigit_0 1 = J_iload 1 2 := rfl
theorem ftl_X5_isDigit_2 : F_X5_isDigit_0 2 = J_callV 5 S_X5_digitAt 1 5 := rfl
theorem ftl_X5_isDigit_5 : F_X5_isDigit_0 5 = J_istore 4 7 := rfl
theorem ftl_X5_isDigit_7 : F_X5_isDigit_0 7 = J_iload 4 9 := rfl
theorem ftl_X5_isDigit_9 : F_X5_isDigit_0 9 = J_iload 2 10 := rfl
theorem ftl_X5_isDigit_10 : F_X5_isDigit_0 10 = J_iclt 23 13 := rfl
theorem ftl_X5_isDigit_13 : F_X5_isDigit_0 13 = J_iload 4 15 := rfl
theorem ftl_X5_isDigit_15 : F_X5_isDigit_0 15 = J_iload 3 16 := rfl
theorem ftl_X5_isDigit_16 : F_X5_isDigit_0 16 = J_icgt 23 19 := rfl
theorem ftl_X5_isDigit_19 : F_X5_isDigit_0 19 = J_iconst 1 20 := rfl
theorem ftl_X5_isDigit_20 : F_X5_isDigit_0 20 = J_goto 24 := rfl
theorem ftl_X5_isDigit_23 : F_X5_isDigit_0 23 = J_iconst 0 24 := rfl
theorem ftl_X5_isDigit_24 : F_X5_isDigit_0 24 = J_zreturn 0 0 := rfl
theorem F_X5_isDigit_0_ok : jOK Y_X5_isDigit none (F_X5_isDigit_0) := (jOK_node (jOK_node (jOK_node (jOK_leaf (sn_aload_n dX5_isDigit_0 rfl rfl)) (jOK_node (jOK_leaf (sn_iload_n dX5_isDigit_1 rfl rfl)) (jOK_leaf (sn_callV (Y' := Y_X5_digitAt) ok_X5_digitAt dX5_isDigit_2 rfl rfl rfl tw_232 tw_233 tw_234 tw_2 jc_X5_digitAt rfl ⟨by decide, by decide, rfl⟩ ⟨by decide, by decide⟩)))) (jOK_node (jOK_node (jOK_leaf (sn_istore dX5_isDigit_5 rfl (by decide))) (jOK_leaf (sn_iload dX5_isDigit_7 rfl))) (jOK_node (jOK_leaf (sn_iload_n dX5_isDigit_9 rfl rfl)) (jOK_leaf (sn_iclt dX5_isDigit_10 rfl rfl))))) (jOK_node (jOK_node (jOK_leaf (sn_iload dX5_isDigit_13 rfl)) (jOK_node (jOK_leaf (sn_iload_n dX5_isDigit_15 rfl rfl)) (jOK_leaf (sn_icgt dX5_isDigit_16 rfl rfl)))) (jOK_node (jOK_node (jOK_leaf (sn_iconst dX5_isDigit_19 rfl rfl)) (jOK_leaf (sn_goto dX5_isDigit_20 rfl))) (jOK_node (jOK_leaf (sn_iconst dX5_isDigit_23 rfl rfl)) (jOK_leaf (sn_zreturn dX5_isDigit_24 rfl rfl))))))
def F_X5_isDigit : Nat → jT := F_X5_isDigit_0
theorem OK_X5_isDigit : jOK Y_X5_isDigit none (F_X5_isDigit) := F_X5_isDigit_0_ok
theorem ft_X5_isDigit_0 : F_X5_isDigit 0 = J_aload 0 1 := ftl_X5_isDigit_0
theorem ft_X5_isDigit_1 : F_X5_isDigit 1 = J_iload 1 2 := ftl_X5_isDigit_1
theorem ft_X5_isDigit_2 : F_X5_isDigit 2 = J_callV 5 S_X5_digitAt 1 5 := ftl_X5_isDigit_2
theorem ft_X5_isDigit_5 : F_X5_isDigit 5 = J_istore 4 7 := ftl_X5_isDigit_5
theorem ft_X5_isDigit_7 : F_X5_isDigit 7 = J_iload 4 9 := ftl_X5_isDigit_7
theorem ft_X5_isDigit_9 : F_X5_isDigit 9 = J_iload 2 10 := ftl_X5_isDigit_9
theorem ft_X5_isDigit_10 : F_X5_isDigit 10 = J_iclt 23 13 := ftl_X5_isDigit_10
theorem ft_X5_isDigit_13 : F_X5_isDigit 13 = J_iload 4 15 := ftl_X5_isDigit_13
theorem ft_X5_isDigit_15 : F_X5_isDigit 15 = J_iload 3 16 := ftl_X5_isDigit_15
theorem ft_X5_isDigit_16 : F_X5_isDigit 16 = J_icgt 23 19 := ftl_X5_isDigit_16
theorem ft_X5_isDigit_19 : F_X5_isDigit 19 = J_iconst 1 20 := ftl_X5_isDigit_19
theorem ft_X5_isDigit_20 : F_X5_isDigit 20 = J_goto 24 := ftl_X5_isDigit_20
theorem ft_X5_isDigit_23 : F_X5_isDigit 23 = J_iconst 0 24 := ftl_X5_isDigit_23
theorem ft_X5_isDigit_24 : F_X5_isDigit 24 = J_zreturn 0 0 := ftl_X5_isDigit_24
def S_X5_isDigit : jSp := fun nb vs mem Q => jcs vs ≤ 5 ∧ jrun F_X5_isDigit [] 40 Q (fun _ _ _ _ _ => False) 0 (jargs vs ++ [none]) [] mem (nb, 0, 0)
theorem ok_X5_isDigit : jMeets Y_X5_isDigit S_X5_isDigit := fun _ _ _ _ h => Ok.inl OK_X5_isDigit 40 [none] pn5 rfl h
theorem s_X5_isDigit {nb : Nat} {C : Nat → Nat → Int32} {z : Nat → Int64} {p a b : Int32} {Q : jQ} : S_X5_isDigit nb [.ref 1, .int p, .int a, .int b] (memS 94 C z) Q = Q (some (.int (zb (dgF (C 2) (C 1 1) p a b)))) (memS 94 C z) := by
  refine (eq_le rfl).trans ?_
  simp -implicitDefEqProofs only [jr_0, jr_1, jr_2, j_iconst, j_lconst, j_iload0, j_aload0, j_istore0, j_astore0, j_iinc0, j_iload1, j_aload1, j_istore1, j_astore1, j_iinc1, j_iload2, j_aload2, j_istore2, j_astore2, j_iinc2, j_iload3, j_aload3, j_istore3, j_astore3, j_iinc3, j_iload4, j_aload4, j_istore4, j_astore4, j_iinc4, j_iload5, j_aload5, j_istore5, j_astore5, j_iinc5, j_iload6, j_aload6, j_istore6, j_astore6, j_iinc6, j_iload7, j_aload7, j_istore7, j_astore7, j_iinc7, j_iload8, j_aload8, j_istore8, j_astore8, j_iinc8, j_iadd, j_isub, j_imul, j_iand, j_ior, j_ixor, j_ishl, j_ishr, j_iushr, j_idiv, j_irem, j_ineg, j_ladd, j_lmul, j_land, j_lor, j_lcmp, j_lushr, j_lshl, j_i2l, j_l2i, j_dupI, j_dupR, j_popI, j_dup2, j_ifeq, j_iceq, j_ifne, j_icne, j_iflt, j_iclt, j_ifge, j_icge, j_ifgt, j_icgt, j_ifle, j_icle, j_goto, j_tsw, j_sw0, j_sw1, j_ireturn, j_zreturn, j_lreturn, j_return, j_getfield, j_putI, j_putJ, j_putR, j_iaload, j_baload, j_iastore, j_bastore, j_aaload, j_q, j_aastore, j_acopy, j_mmin, j_mmax, j_mabs, j_objinit, j_new, j_newI, j_newQ, j_sld, j_slen, j_callV0, j_callI0, j_callS0, j_callV1, j_callI1, j_callS1, j_callV2, j_callI2, j_callS2, j_callV3, j_callS3, j_callV4, j_callS4, j_callV5, j_callS5, j_pushS, j_pushN, j_sh0, j_sh1, j_sh2, j_sh3, j_sh4, Int32.reduceAdd, Int32.reduceMul, Int32.reduceSub, Int32.reduceLT, Int32.reduceLE, eq_self, i32_10, i32_01, ne_eq, hrow_s, hrow_n, ne10, ne100, ne1000, ne7, ne4, ne14, ne9973, or_true, true_or, or_false, false_or, not_true_eq_false, not_false_eq_true, false_implies, implies_true, and_true, forall_const, true_implies, jargs_n, jargs_r, jargs_i, List.cons_append, List.nil_append, true_and, Nat.reduceEqDiff, reduceIte, ft_X5_isDigit_0, ft_X5_isDigit_1, ft_X5_isDigit_2, ft_X5_isDigit_5, ft_X5_isDigit_7, ft_X5_isDigit_9, ft_X5_isDigit_10, ft_X5_isDigit_13, ft_X5_isDigit_15, ft_X5_isDigit_16, ft_X5_isDigit_19, ft_X5_isDigit_20, ft_X5_isDigit_23, ft_X5_isDigit_24, rc_1, s_X5_digitAt]
  grind [zb, dgF]
def F_X5_append_0 : Nat → jT := fun pc => (bif Nat.blt pc 11 then (bif Nat.blt pc 4 then (bif Nat.blt pc 1 then (bif Nat.beq pc 0 then J_aload 0 1 else jbad) else (bif Nat.beq pc 1 then J_getfield 5 1 4 else jbad)) else (bif Nat.blt pc 7 then (bif Nat.beq pc 4 then J_iflt 16 7 else jbad) else (bif Nat.blt pc 8 then (bif Nat.beq pc 7 then J_aload 0 8 else jbad) else (bif Nat.beq pc 8 then J_getfield 5 1 11 else jbad)))) else (bif Nat.blt pc 17 then (bif Nat.blt pc 13 then (bif Nat.beq pc 11 then J_iconst 70 13 else jbad) else (bif Nat.blt pc 16 then (bif Nat.beq pc 13 then J_iclt 18 16 else jbad) else (bif Nat.beq pc 16 then J_iconst 0 17 else jbad))) else (bif Nat.blt pc 18 then (bif Nat.beq pc 17 then J_zreturn 0 0 else jbad) else (bif Nat.blt pc 19 then (bif Nat.beq pc 18 then J_aload 0 19 else jbad) else (bif Nat.beq pc 19 then J_getfield 5 0 22 else jbad)))))
theorem ftl_X5_append_0 : F_X5_append_0 0 = J_aload 0 1 := rfl
theorem ftl_X5_append_1 : F_X5_append_0 1 = J_getfield 5 1 4 := rfl
theorem ftl_X5_append_4 : F_X5_append_0 4 = J_iflt 16 7 := rfl
theorem ftl_X5_append_7 : F_X5_append_0 7 = J_aload 0 8 := rfl
theorem ftl_X5_append_8 : F_X5_append_0 8 = J_getfield 5 1 11 := rfl
theorem ftl_X5_append_11 : F_X5_append_0 11 = J_iconst 70 13 := rfl
theorem ftl_X5_append_13 : F_X5_append_0 13 = J_iclt 18 16 := rfl
theorem ftl_X5_append_16 : F_X5_append_0 16 = J_iconst 0 17 := rfl
theorem ftl_X5_append_17 : F_X5_append_0 17 = J_zreturn 0 0 := rfl
theorem ftl_X5_append_18 : F_X5_append_0 18 = J_aload 0 19 := rfl
theorem ftl_X5_append_19 : F_X5_append_0 19 = J_getfield 5 0 22 := rfl
theorem F_X5_append_0_ok : jOK Y_X5_append none (F_X5_append_0) := (jOK_node (jOK_node (jOK_node (jOK_leaf (sn_aload_n dX5_append_0 rfl rfl)) (jOK_leaf (sn_getfield dX5_append_1 rfl rfl (by decide) tw_27 jin5))) (jOK_node (jOK_leaf (sn_iflt dX5_append_4 rfl rfl)) (jOK_node (jOK_leaf (sn_aload_n dX5_append_7 rfl rfl)) (jOK_leaf (sn_getfield dX5_append_8 rfl rfl (by decide) tw_27 jin5))))) (jOK_node (jOK_node (jOK_leaf (sn_bipush dX5_append_11 rfl rfl)) (jOK_node (jOK_leaf (sn_iclt dX5_append_13 rfl rfl)) (jOK_leaf (sn_iconst dX5_append_16 rfl rfl)))) (jOK_node (jOK_leaf (sn_zreturn dX5_append_17 rfl rfl)) (jOK_node (jOK_leaf (sn_aload_n dX5_append_18 rfl rfl)) (jOK_leaf (sn_getfield dX5_append_19 rfl rfl (by decide) tw_26 jin5))))))
def F_X5_append_22 : Nat → jT := fun pc => (bif Nat.blt pc 30 then (bif Nat.blt pc 27 then (bif Nat.blt pc 23 then (bif Nat.beq pc 22 then J_aload 0 23 else jbad) else (bif Nat.blt pc 26 then (bif Nat.beq pc 23 then J_getfield 5 1 26 else jbad) else (bif Nat.beq pc 26 then J_iload 1 27 else jbad))) else (bif Nat.blt pc 28 then (bif Nat.beq pc 27 then J_iastore 28 else jbad) else (bif Nat.blt pc 29 then (bif Nat.beq pc 28 then J_aload 0 29 else jbad) else (bif Nat.beq pc 29 then J_dup 30 else jbad)))) else (bif Nat.blt pc 35 then (bif Nat.blt pc 33 then (bif Nat.beq pc 30 then J_getfield 5 1 33 else jbad) else (bif Nat.blt pc 34 then (bif Nat.beq pc 33 then J_iconst 1 34 else jbad) else (bif Nat.beq pc 34 then J_iadd 35 else jbad))) else (bif Nat.blt pc 38 then (bif Nat.beq pc 35 then J_putI 5 1 38 else jbad) else (bif Nat.blt pc 39 then (bif Nat.beq pc 38 then J_iconst 1 39 else jbad) else (bif Nat.beq pc 39 then J_zreturn 0 0 else jbad)))))
theorem ftl_X5_append_22 : F_X5_append_22 22 = J_aload 0 23 := rfl
theorem ftl_X5_append_23 : F_X5_append_22 23 = J_getfield 5 1 26 := rfl
theorem ftl_X5_append_26 : F_X5_append_22 26 = J_iload 1 27 := rfl
theorem ftl_X5_append_27 : F_X5_append_22 27 = J_iastore 28 := rfl
theorem ftl_X5_append_28 : F_X5_append_22 28 = J_aload 0 29 := rfl
theorem ftl_X5_append_29 : F_X5_append_22 29 = J_dup 30 := rfl
theorem ftl_X5_append_30 : F_X5_append_22 30 = J_getfield 5 1 33 := rfl
theorem ftl_X5_append_33 : F_X5_append_22 33 = J_iconst 1 34 := rfl
theorem ftl_X5_append_34 : F_X5_append_22 34 = J_iadd 35 := rfl
theorem ftl_X5_append_35 : F_X5_append_22 35 = J_putI 5 1 38 := rfl
theorem ftl_X5_append_38 : F_X5_append_22 38 = J_iconst 1 39 := rfl
theorem ftl_X5_append_39 : F_X5_append_22 39 = J_zreturn 0 0 := rfl
theorem F_X5_append_22_ok : jOK Y_X5_append none (F_X5_append_22) := (jOK_node (jOK_node (jOK_node (jOK_leaf (sn_aload_n dX5_append_22 rfl rfl)) (jOK_node (jOK_leaf (sn_getfield dX5_append_23 rfl rfl (by decide) tw_27 jin5)) (jOK_leaf (sn_iload_n dX5_append_26 rfl rfl)))) (jOK_node (jOK_leaf (sn_iastore dX5_append_27 rfl)) (jOK_node (jOK_leaf (sn_aload_n dX5_append_28 rfl rfl)) (jOK_leaf (sn_dup dX5_append_29 rfl))))) (jOK_node (jOK_node (jOK_leaf (sn_getfield dX5_append_30 rfl rfl (by decide) tw_27 jin5)) (jOK_node (jOK_leaf (sn_iconst dX5_append_33 rfl rfl)) (jOK_leaf (sn_iadd dX5_append_34 rfl)))) (jOK_node (jOK_leaf (sn_putI tyX5 dX5_append_35 rfl rfl (by decide) tw_27 jin5 tyX5_ok nmX5 rfl rfl)) (jOK_node (jOK_leaf (sn_iconst dX5_append_38 rfl rfl)) (jOK_leaf (sn_zreturn dX5_append_39 rfl rfl))))))
def F_X5_append_0_39 : Nat → jT := fun pc => bif Nat.blt pc 22 then F_X5_append_0 pc else F_X5_append_22 pc
theorem F_X5_append_0_39_ok : jOK Y_X5_append none (F_X5_append_0_39) := jOK_node (F_X5_append_0_ok) (F_X5_append_22_ok)
def F_X5_append : Nat → jT := F_X5_append_0_39
theorem OK_X5_append : jOK Y_X5_append none (F_X5_append) := F_X5_append_0_39_ok
theorem ft_X5_append_0 : F_X5_append 0 = J_aload 0 1 := ftl_X5_append_0
theorem ft_X5_append_1 : F_X5_append 1 = J_getfield 5 1 4 := ftl_X5_append_1
theorem ft_X5_append_4 : F_X5_append 4 = J_iflt 16 7 := ftl_X5_append_4
theorem ft_X5_append_7 : F_X5_append 7 = J_aload 0 8 := ftl_X5_append_7
theorem ft_X5_append_8 : F_X5_append 8 = J_getfield 5 1 11 := ftl_X5_append_8
theorem ft_X5_append_11 : F_X5_append 11 = J_iconst 70 13 := ftl_X5_append_11
theorem ft_X5_append_13 : F_X5_append 13 = J_iclt 18 16 := ftl_X5_append_13
theorem ft_X5_append_16 : F_X5_append 16 = J_iconst 0 17 := ftl_X5_append_16
theorem ft_X5_append_17 : F_X5_append 17 = J_zreturn 0 0 := ftl_X5_append_17
theorem ft_X5_append_18 : F_X5_append 18 = J_aload 0 19 := ftl_X5_append_18
theorem ft_X5_append_19 : F_X5_append 19 = J_getfield 5 0 22 := ftl_X5_append_19
theorem ft_X5_append_22 : F_X5_append 22 = J_aload 0 23 := ftl_X5_append_22
theorem ft_X5_append_23 : F_X5_append 23 = J_getfield 5 1 26 := ftl_X5_append_23
theorem ft_X5_append_26 : F_X5_append 26 = J_iload 1 27 := ftl_X5_append_26
theorem ft_X5_append_27 : F_X5_append 27 = J_iastore 28 := ftl_X5_append_27
theorem ft_X5_append_28 : F_X5_append 28 = J_aload 0 29 := ftl_X5_append_28
theorem ft_X5_append_29 : F_X5_append 29 = J_dup 30 := ftl_X5_append_29
theorem ft_X5_append_30 : F_X5_append 30 = J_getfield 5 1 33 := ftl_X5_append_30
theorem ft_X5_append_33 : F_X5_append 33 = J_iconst 1 34 := ftl_X5_append_33
theorem ft_X5_append_34 : F_X5_append 34 = J_iadd 35 := ftl_X5_append_34
theorem ft_X5_append_35 : F_X5_append 35 = J_putI 5 1 38 := ftl_X5_append_35
theorem ft_X5_append_38 : F_X5_append 38 = J_iconst 1 39 := ftl_X5_append_38
theorem ft_X5_append_39 : F_X5_append 39 = J_zreturn 0 0 := ftl_X5_append_39
def S_X5_append : jSp := fun nb vs mem Q => jcs vs ≤ 2 ∧ jrun F_X5_append [] 60 Q (fun _ _ _ _ _ => False) 0 (jargs vs ++ []) [] mem (nb, 0, 0)
theorem ok_X5_append : jMeets Y_X5_append S_X5_append := fun _ _ _ _ h => Ok.inl OK_X5_append 60 [] pn5 rfl h
theorem s_X5_append {nb k : Nat} {C : Nat → Nat → Int32} {z : Nat → Int64} {x : Int32} {Q : jQ} (hk : C 1 1 = nI k) (h : k ≤ 70) : S_X5_append nb [.ref 1, .int x] (memS 94 C z) Q = if k = 70 then Q (some (.int 0)) (memS 94 C z) else Q (some (.int 1)) (memS 94 (hrow (hrow C 2 (upd (C 2) k x)) 1 (upd (C 1) 1 (nI (k + 1)))) z) := by
  refine (eq_le rfl).trans ?_
  simp -implicitDefEqProofs only [jr_0, jr_1, jr_2, j_iconst, j_lconst, j_iload0, j_aload0, j_istore0, j_astore0, j_iinc0, j_iload1, j_aload1, j_istore1, j_astore1, j_iinc1, j_iload2, j_aload2, j_istore2, j_astore2, j_iinc2, j_iload3, j_aload3, j_istore3, j_astore3, j_iinc3, j_iload4, j_aload4, j_istore4, j_astore4, j_iinc4, j_iload5, j_aload5, j_istore5, j_astore5, j_iinc5, j_iload6, j_aload6, j_istore6, j_astore6, j_iinc6, j_iload7, j_aload7, j_istore7, j_astore7, j_iinc7, j_iload8, j_aload8, j_istore8, j_astore8, j_iinc8, j_iadd, j_isub, j_imul, j_iand, j_ior, j_ixor, j_ishl, j_ishr, j_iushr, j_idiv, j_irem, j_ineg, j_ladd, j_lmul, j_land, j_lor, j_lcmp, j_lushr, j_lshl, j_i2l, j_l2i, j_dupI, j_dupR, j_popI, j_dup2, j_ifeq, j_iceq, j_ifne, j_icne, j_iflt, j_iclt, j_ifge, j_icge, j_ifgt, j_icgt, j_ifle, j_icle, j_goto, j_tsw, j_sw0, j_sw1, j_ireturn, j_zreturn, j_lreturn, j_return, j_getfield, j_putI, j_putJ, j_putR, j_iaload, j_baload, j_iastore, j_bastore, j_aaload, j_q, j_aastore, j_acopy, j_mmin, j_mmax, j_mabs, j_objinit, j_new, j_newI, j_newQ, j_sld, j_slen, j_callV0, j_callI0, j_callS0, j_callV1, j_callI1, j_callS1, j_callV2, j_callI2, j_callS2, j_callV3, j_callS3, j_callV4, j_callS4, j_callV5, j_callS5, j_pushS, j_pushN, j_sh0, j_sh1, j_sh2, j_sh3, j_sh4, Int32.reduceAdd, Int32.reduceMul, Int32.reduceSub, Int32.reduceLT, Int32.reduceLE, eq_self, i32_10, i32_01, ne_eq, hrow_s, hrow_n, ne10, ne100, ne1000, ne7, ne4, ne14, ne9973, or_true, true_or, or_false, false_or, not_true_eq_false, not_false_eq_true, false_implies, implies_true, and_true, forall_const, true_implies, jargs_n, jargs_r, jargs_i, List.cons_append, List.nil_append, true_and, Nat.reduceEqDiff, reduceIte, ft_X5_append_0, ft_X5_append_1, ft_X5_append_4, ft_X5_append_7, ft_X5_append_8, ft_X5_append_11, ft_X5_append_13, ft_X5_append_16, ft_X5_append_17, ft_X5_append_18, ft_X5_append_19, ft_X5_append_22, ft_X5_append_23, ft_X5_append_26, ft_X5_append_27, ft_X5_append_28, ft_X5_append_29, ft_X5_append_30, ft_X5_append_33, ft_X5_append_34, ft_X5_append_35, ft_X5_append_38, ft_X5_append_39, fl_1_0, fl_1_1, as_2, fp_1_1, hk]
  by_cases h70 : k = 70
  · subst h70
    rw [if_pos rfl]
    have h1 : ¬ nI 70 < 0 := by decide
    have h2 : ¬ nI 70 < 70 := by decide
    exact propext ⟨fun q => (q.2 h1).2 h2, fun q => ⟨fun w => absurd w h1, fun _ => ⟨fun w => absurd w h2, fun _ => q⟩⟩⟩
  · rw [if_neg h70]
    have h1 : ¬ nI k < 0 := nI_pos (by omega)
    have h2 : nI k < 70 := nI_lt (b := 70) (by omega) (by decide)
    rw [nI_1, nI_clamp (by omega)]
    exact propext ⟨fun q => ((q.2 h1).1 h2).2, fun q => ⟨fun w => absurd w h1, fun _ => ⟨fun _ => ⟨vp_in_nI (by omega) (by decide), q⟩, fun w => absurd h2 w⟩⟩⟩
noncomputable def headF (f : Nat → Int32) (len : Int32) : Int32 := pick (byteF f len 0 = 70) (pick (dgF f len 1 0 9) (pick (dgF f len 2 0 9) (pick (dgF f len 3 1 9) (-9) 3) 2) 1) 0
def F_X5_faultOfHead_0 : Nat → jT := fun pc => (bif Nat.blt pc 13 then (bif Nat.blt pc 7 then (bif Nat.blt pc 2 then (bif Nat.blt pc 1 then (bif Nat.beq pc 0 then J_aload 0 1 else jbad) else (bif Nat.beq pc 1 then J_iconst 0 2 else jbad)) else (bif Nat.blt pc 5 then (bif Nat.beq pc 2 then J_callV 5 S_X5_byteAt 1 5 else jbad) else (bif Nat.beq pc 5 then J_iconst 70 7 else jbad))) else (bif Nat.blt pc 11 then (bif Nat.blt pc 10 then (bif Nat.beq pc 7 then J_iceq 12 10 else jbad) else (bif Nat.beq pc 10 then J_iconst 0 11 else jbad)) else (bif Nat.blt pc 12 then (bif Nat.beq pc 11 then J_ireturn 0 0 else jbad) else (bif Nat.beq pc 12 then J_aload 0 13 else jbad)))) else (bif Nat.blt pc 20 then (bif Nat.blt pc 15 then (bif Nat.blt pc 14 then (bif Nat.beq pc 13 then J_iconst 1 14 else jbad) else (bif Nat.beq pc 14 then J_iconst 0 15 else jbad)) else (bif Nat.blt pc 17 then (bif Nat.beq pc 15 then J_iconst 9 17 else jbad) else (bif Nat.beq pc 17 then J_callV 5 S_X5_isDigit 3 20 else jbad))) else (bif Nat.blt pc 24 then (bif Nat.blt pc 23 then (bif Nat.beq pc 20 then J_ifne 25 23 else jbad) else (bif Nat.beq pc 23 then J_iconst 1 24 else jbad)) else (bif Nat.blt pc 25 then (bif Nat.beq pc 24 then J_ireturn 0 0 else jbad) else (bif Nat.beq pc 25 then J_aload 0 26 else jbad)))))
theorem ftl_X5_faultOfHead_0 : F_X5_faultOfHead_0 0 = J_aload 0 1 := rfl
theorem ftl_X5_faultOfHead_1 : F_X5_faultOfHead_0 1 = J_iconst 0 2 := rfl
theorem ftl_X5_faultOfHead_2 : F_X5_faultOfHead_0 2 = J_callV 5 S_X5_byteAt 1 5 := rfl
theorem ftl_X5_faultOfHead_5 : F_X5_faultOfHead_0 5 = J_iconst 70 7 := rfl
theorem ftl_X5_faultOfHead_7 : F_X5_faultOfHead_0 7 = J_iceq 12 10 := rfl
theorem ftl_X5_faultOfHead_10 : F_X5_faultOfHead_0 10 = J_iconst 0 11 := rfl
theorem ftl_X5_faultOfHead_11 : F_X5_faultOfHead_0 11 = J_ireturn 0 0 := rfl
theorem ftl_X5_faultOfHead_12 : F_X5_faultOfHead_0 12 = J_aload 0 13 := rfl
theorem ftl_X5_faultOfHead_13 : F_X5_faultOfHead_0 13 = J_iconst 1 14 := rfl
theorem ftl_X5_faultOfHead_14 : F_X5_faultOfHead_0 14 = J_iconst 0 15 := rfl
theorem ftl_X5_faultOfHead_15 : F_X5_faultOfHead_0 15 = J_iconst 9 17 := rfl
theorem ftl_X5_faultOfHead_17 : F_X5_faultOfHead_0 17 = J_callV 5 S_X5_isDigit 3 20 := rfl
theorem ftl_X5_faultOfHead_20 : F_X5_faultOfHead_0 20 = J_ifne 25 23 := rfl
theorem ftl_X5_faultOfHead_23 : F_X5_faultOfHead_0 23 = J_iconst 1 24 := rfl
theorem ftl_X5_faultOfHead_24 : F_X5_faultOfHead_0 24 = J_ireturn 0 0 := rfl
theorem ftl_X5_faultOfHead_25 : F_X5_faultOfHead_0 25 = J_aload 0 26 := rfl
theorem F_X5_faultOfHead_0_ok : jOK Y_X5_faultOfHead none (F_X5_faultOfHead_0) := (jOK_node (jOK_node (jOK_node (jOK_node (jOK_leaf (sn_aload_n dX5_faultOfHead_0 rfl rfl)) (jOK_leaf (sn_iconst dX5_faultOfHead_1 rfl rfl))) (jOK_node (jOK_leaf (sn_callV (Y' := Y_X5_byteAt) ok_X5_byteAt dX5_faultOfHead_2 rfl rfl rfl tw_224 tw_225 tw_226 tw_2 jc_X5_byteAt rfl ⟨by decide, by decide, rfl⟩ ⟨by decide, by decide⟩)) (jOK_leaf (sn_bipush dX5_faultOfHead_5 rfl rfl)))) (jOK_node (jOK_node (jOK_leaf (sn_iceq dX5_faultOfHead_7 rfl rfl)) (jOK_leaf (sn_iconst dX5_faultOfHead_10 rfl rfl))) (jOK_node (jOK_leaf (sn_ireturn dX5_faultOfHead_11 rfl rfl)) (jOK_leaf (sn_aload_n dX5_faultOfHead_12 rfl rfl))))) (jOK_node (jOK_node (jOK_node (jOK_leaf (sn_iconst dX5_faultOfHead_13 rfl rfl)) (jOK_leaf (sn_iconst dX5_faultOfHead_14 rfl rfl))) (jOK_node (jOK_leaf (sn_bipush dX5_faultOfHead_15 rfl rfl)) (jOK_leaf (sn_callV (Y' := Y_X5_isDigit) ok_X5_isDigit dX5_faultOfHead_17 rfl rfl rfl tw_228 tw_230 tp_1 tw_2 jc_X5_isDigit rfl ⟨by decide, by decide, rfl⟩ ⟨by decide, by decide⟩)))) (jOK_node (jOK_node (jOK_leaf (sn_ifne dX5_faultOfHead_20 rfl rfl)) (jOK_leaf (sn_iconst dX5_faultOfHead_23 rfl rfl))) (jOK_node (jOK_leaf (sn_ireturn dX5_faultOfHead_24 rfl rfl)) (jOK_leaf (sn_aload_n dX5_faultOfHead_25 rfl rfl))))))
def F_X5_faultOfHead_26 : Nat → jT := fun pc => (bif Nat.blt pc 33 then (bif Nat.blt pc 28 then (bif Nat.blt pc 27 then (bif Nat.beq pc 26 then J_iconst 2 27 else jbad) else (bif Nat.beq pc 27 then J_iconst 0 28 else jbad)) else (bif Nat.blt pc 30 then (bif Nat.beq pc 28 then J_iconst 9 30 else jbad) else (bif Nat.beq pc 30 then J_callV 5 S_X5_isDigit 3 33 else jbad))) else (bif Nat.blt pc 37 then (bif Nat.blt pc 36 then (bif Nat.beq pc 33 then J_ifne 38 36 else jbad) else (bif Nat.beq pc 36 then J_iconst 2 37 else jbad)) else (bif Nat.blt pc 38 then (bif Nat.beq pc 37 then J_ireturn 0 0 else jbad) else (bif Nat.beq pc 38 then J_aload 0 39 else jbad))))
theorem ftl_X5_faultOfHead_26 : F_X5_faultOfHead_26 26 = J_iconst 2 27 := rfl
theorem ftl_X5_faultOfHead_27 : F_X5_faultOfHead_26 27 = J_iconst 0 28 := rfl
theorem ftl_X5_faultOfHead_28 : F_X5_faultOfHead_26 28 = J_iconst 9 30 := rfl
theorem ftl_X5_faultOfHead_30 : F_X5_faultOfHead_26 30 = J_callV 5 S_X5_isDigit 3 33 := rfl
theorem ftl_X5_faultOfHead_33 : F_X5_faultOfHead_26 33 = J_ifne 38 36 := rfl
theorem ftl_X5_faultOfHead_36 : F_X5_faultOfHead_26 36 = J_iconst 2 37 := rfl
theorem ftl_X5_faultOfHead_37 : F_X5_faultOfHead_26 37 = J_ireturn 0 0 := rfl
theorem ftl_X5_faultOfHead_38 : F_X5_faultOfHead_26 38 = J_aload 0 39 := rfl
theorem F_X5_faultOfHead_26_ok : jOK Y_X5_faultOfHead none (F_X5_faultOfHead_26) := (jOK_node (jOK_node (jOK_node (jOK_leaf (sn_iconst dX5_faultOfHead_26 rfl rfl)) (jOK_leaf (sn_iconst dX5_faultOfHead_27 rfl rfl))) (jOK_node (jOK_leaf (sn_bipush dX5_faultOfHead_28 rfl rfl)) (jOK_leaf (sn_callV (Y' := Y_X5_isDigit) ok_X5_isDigit dX5_faultOfHead_30 rfl rfl rfl tw_228 tw_230 tp_1 tw_2 jc_X5_isDigit rfl ⟨by decide, by decide, rfl⟩ ⟨by decide, by decide⟩)))) (jOK_node (jOK_node (jOK_leaf (sn_ifne dX5_faultOfHead_33 rfl rfl)) (jOK_leaf (sn_iconst dX5_faultOfHead_36 rfl rfl))) (jOK_node (jOK_leaf (sn_ireturn dX5_faultOfHead_37 rfl rfl)) (jOK_leaf (sn_aload_n dX5_faultOfHead_38 rfl rfl)))))
def F_X5_faultOfHead_39 : Nat → jT := fun pc => (bif Nat.blt pc 46 then (bif Nat.blt pc 41 then (bif Nat.blt pc 40 then (bif Nat.beq pc 39 then J_iconst 3 40 else jbad) else (bif Nat.beq pc 40 then J_iconst 1 41 else jbad)) else (bif Nat.blt pc 43 then (bif Nat.beq pc 41 then J_iconst 9 43 else jbad) else (bif Nat.beq pc 43 then J_callV 5 S_X5_isDigit 3 46 else jbad))) else (bif Nat.blt pc 51 then (bif Nat.blt pc 49 then (bif Nat.beq pc 46 then J_ifeq 54 49 else jbad) else (bif Nat.beq pc 49 then J_iconst (-9) 51 else jbad)) else (bif Nat.blt pc 54 then (bif Nat.beq pc 51 then J_goto 55 else jbad) else (bif Nat.blt pc 55 then (bif Nat.beq pc 54 then J_iconst 3 55 else jbad) else (bif Nat.beq pc 55 then J_ireturn 0 0 else jbad)))))
theorem ftl_X5_faultOfHead_39 : F_X5_faultOfHead_39 39 = J_iconst 3 40 := rfl
theorem ftl_X5_faultOfHead_40 : F_X5_faultOfHead_39 40 = J_iconst 1 41 := rfl
theorem ftl_X5_faultOfHead_41 : F_X5_faultOfHead_39 41 = J_iconst 9 43 := rfl
theorem ftl_X5_faultOfHead_43 : F_X5_faultOfHead_39 43 = J_callV 5 S_X5_isDigit 3 46 := rfl
theorem ftl_X5_faultOfHead_46 : F_X5_faultOfHead_39 46 = J_ifeq 54 49 := rfl
theorem ftl_X5_faultOfHead_49 : F_X5_faultOfHead_39 49 = J_iconst (-9) 51 := rfl
theorem ftl_X5_faultOfHead_51 : F_X5_faultOfHead_39 51 = J_goto 55 := rfl
theorem ftl_X5_faultOfHead_54 : F_X5_faultOfHead_39 54 = J_iconst 3 55 := rfl
theorem ftl_X5_faultOfHead_55 : F_X5_faultOfHead_39 55 = J_ireturn 0 0 := rfl
theorem F_X5_faultOfHead_39_ok : jOK Y_X5_faultOfHead none (F_X5_faultOfHead_39) := (jOK_node (jOK_node (jOK_node (jOK_leaf (sn_iconst dX5_faultOfHead_39 rfl rfl)) (jOK_leaf (sn_iconst dX5_faultOfHead_40 rfl rfl))) (jOK_node (jOK_leaf (sn_bipush dX5_faultOfHead_41 rfl rfl)) (jOK_leaf (sn_callV (Y' := Y_X5_isDigit) ok_X5_isDigit dX5_faultOfHead_43 rfl rfl rfl tw_228 tw_230 tp_1 tw_2 jc_X5_isDigit rfl ⟨by decide, by decide, rfl⟩ ⟨by decide, by decide⟩)))) (jOK_node (jOK_node (jOK_leaf (sn_ifeq dX5_faultOfHead_46 rfl rfl)) (jOK_leaf (sn_bipush dX5_faultOfHead_49 rfl rfl))) (jOK_node (jOK_leaf (sn_goto dX5_faultOfHead_51 rfl)) (jOK_node (jOK_leaf (sn_iconst dX5_faultOfHead_54 rfl rfl)) (jOK_leaf (sn_ireturn dX5_faultOfHead_55 rfl rfl))))))
def F_X5_faultOfHead_26_55 : Nat → jT := fun pc => bif Nat.blt pc 39 then F_X5_faultOfHead_26 pc else F_X5_faultOfHead_39 pc
theorem F_X5_faultOfHead_26_55_ok : jOK Y_X5_faultOfHead none (F_X5_faultOfHead_26_55) := jOK_node (F_X5_faultOfHead_26_ok) (F_X5_faultOfHead_39_ok)
def F_X5_faultOfHead_0_55 : Nat → jT := fun pc => bif Nat.blt pc 26 then F_X5_faultOfHead_0 pc else F_X5_faultOfHead_26_55 pc
theorem F_X5_faultOfHead_0_55_ok : jOK Y_X5_faultOfHead none (F_X5_faultOfHead_0_55) := jOK_node (F_X5_faultOfHead_0_ok) (F_X5_faultOfHead_26_55_ok)
def F_X5_faultOfHead : Nat → jT := F_X5_faultOfHead_0_55
theorem OK_X5_faultOfHead : jOK Y_X5_faultOfHead none (F_X5_faultOfHead) := F_X5_faultOfHead_0_55_ok
theorem ft_X5_faultOfHead_0 : F_X5_faultOfHead 0 = J_aload 0 1 := ftl_X5_faultOfHead_0
theorem ft_X5_faultOfHead_1 : F_X5_faultOfHead 1 = J_iconst 0 2 := ftl_X5_faultOfHead_1
theorem ft_X5_faultOfHead_2 : F_X5_faultOfHead 2 = J_callV 5 S_X5_byteAt 1 5 := ftl_X5_faultOfHead_2
theorem ft_X5_faultOfHead_5 : F_X5_faultOfHead 5 = J_iconst 70 7 := ftl_X5_faultOfHead_5
theorem ft_X5_faultOfHead_7 : F_X5_faultOfHead 7 = J_iceq 12 10 := ftl_X5_faultOfHead_7
theorem ft_X5_faultOfHead_10 : F_X5_faultOfHead 10 = J_iconst 0 11 := ftl_X5_faultOfHead_10
theorem ft_X5_faultOfHead_11 : F_X5_faultOfHead 11 = J_ireturn 0 0 := ftl_X5_faultOfHead_11
theorem ft_X5_faultOfHead_12 : F_X5_faultOfHead 12 = J_aload 0 13 := ftl_X5_faultOfHead_12
theorem ft_X5_faultOfHead_13 : F_X5_faultOfHead 13 = J_iconst 1 14 := ftl_X5_faultOfHead_13
theorem ft_X5_faultOfHead_14 : F_X5_faultOfHead 14 = J_iconst 0 15 := ftl_X5_faultOfHead_14
theorem ft_X5_faultOfHead_15 : F_X5_faultOfHead 15 = J_iconst 9 17 := ftl_X5_faultOfHead_15
theorem ft_X5_faultOfHead_17 : F_X5_faultOfHead 17 = J_callV 5 S_X5_isDigit 3 20 := ftl_X5_faultOfHead_17
theorem ft_X5_faultOfHead_20 : F_X5_faultOfHead 20 = J_ifne 25 23 := ftl_X5_faultOfHead_20
theorem ft_X5_faultOfHead_23 : F_X5_faultOfHead 23 = J_iconst 1 24 := ftl_X5_faultOfHead_23
theorem ft_X5_faultOfHead_24 : F_X5_faultOfHead 24 = J_ireturn 0 0 := ftl_X5_faultOfHead_24
theorem ft_X5_faultOfHead_25 : F_X5_faultOfHead 25 = J_aload 0 26 := ftl_X5_faultOfHead_25
theorem ft_X5_faultOfHead_26 : F_X5_faultOfHead 26 = J_iconst 2 27 := ftl_X5_faultOfHead_26
theorem ft_X5_faultOfHead_27 : F_X5_faultOfHead 27 = J_iconst 0 28 := ftl_X5_faultOfHead_27
theorem ft_X5_faultOfHead_28 : F_X5_faultOfHead 28 = J_iconst 9 30 := ftl_X5_faultOfHead_28
theorem ft_X5_faultOfHead_30 : F_X5_faultOfHead 30 = J_callV 5 S_X5_isDigit 3 33 := ftl_X5_faultOfHead_30
theorem ft_X5_faultOfHead_33 : F_X5_faultOfHead 33 = J_ifne 38 36 := ftl_X5_faultOfHead_33
theorem ft_X5_faultOfHead_36 : F_X5_faultOfHead 36 = J_iconst 2 37 := ftl_X5_faultOfHead_36
theorem ft_X5_faultOfHead_37 : F_X5_faultOfHead 37 = J_ireturn 0 0 := ftl_X5_faultOfHead_37
theorem ft_X5_faultOfHead_38 : F_X5_faultOfHead 38 = J_aload 0 39 := ftl_X5_faultOfHead_38
theorem ft_X5_faultOfHead_39 : F_X5_faultOfHead 39 = J_iconst 3 40 := ftl_X5_faultOfHead_39
theorem ft_X5_faultOfHead_40 : F_X5_faultOfHead 40 = J_iconst 1 41 := ftl_X5_faultOfHead_40
theorem ft_X5_faultOfHead_41 : F_X5_faultOfHead 41 = J_iconst 9 43 := ftl_X5_faultOfHead_41
theorem ft_X5_faultOfHead_43 : F_X5_faultOfHead 43 = J_callV 5 S_X5_isDigit 3 46 := ftl_X5_faultOfHead_43
theorem ft_X5_faultOfHead_46 : F_X5_faultOfHead 46 = J_ifeq 54 49 := ftl_X5_faultOfHead_46
theorem ft_X5_faultOfHead_49 : F_X5_faultOfHead 49 = J_iconst (-9) 51 := ftl_X5_faultOfHead_49
theorem ft_X5_faultOfHead_51 : F_X5_faultOfHead 51 = J_goto 55 := ftl_X5_faultOfHead_51
theorem ft_X5_faultOfHead_54 : F_X5_faultOfHead 54 = J_iconst 3 55 := ftl_X5_faultOfHead_54
theorem ft_X5_faultOfHead_55 : F_X5_faultOfHead 55 = J_ireturn 0 0 := ftl_X5_faultOfHead_55
def S_X5_faultOfHead : jSp := fun nb vs mem Q => jcs vs ≤ 1 ∧ jrun F_X5_faultOfHead [] 80 Q (fun _ _ _ _ _ => False) 0 (jargs vs ++ []) [] mem (nb, 0, 0)
theorem ok_X5_faultOfHead : jMeets Y_X5_faultOfHead S_X5_faultOfHead := fun _ _ _ _ h => Ok.inl OK_X5_faultOfHead 80 [] pn5 rfl h
theorem s_X5_faultOfHead {nb : Nat} {C : Nat → Nat → Int32} {z : Nat → Int64} {Q : jQ} : S_X5_faultOfHead nb [.ref 1] (memS 94 C z) Q = Q (some (.int (headF (C 2) (C 1 1)))) (memS 94 C z) := by
  refine (eq_le rfl).trans ?_
  simp -implicitDefEqProofs only [jr_0, jr_1, jr_2, j_iconst, j_lconst, j_iload0, j_aload0, j_istore0, j_astore0, j_iinc0, j_iload1, j_aload1, j_istore1, j_astore1, j_iinc1, j_iload2, j_aload2, j_istore2, j_astore2, j_iinc2, j_iload3, j_aload3, j_istore3, j_astore3, j_iinc3, j_iload4, j_aload4, j_istore4, j_astore4, j_iinc4, j_iload5, j_aload5, j_istore5, j_astore5, j_iinc5, j_iload6, j_aload6, j_istore6, j_astore6, j_iinc6, j_iload7, j_aload7, j_istore7, j_astore7, j_iinc7, j_iload8, j_aload8, j_istore8, j_astore8, j_iinc8, j_iadd, j_isub, j_imul, j_iand, j_ior, j_ixor, j_ishl, j_ishr, j_iushr, j_idiv, j_irem, j_ineg, j_ladd, j_lmul, j_land, j_lor, j_lcmp, j_lushr, j_lshl, j_i2l, j_l2i, j_dupI, j_dupR, j_popI, j_dup2, j_ifeq, j_iceq, j_ifne, j_icne, j_iflt, j_iclt, j_ifge, j_icge, j_ifgt, j_icgt, j_ifle, j_icle, j_goto, j_tsw, j_sw0, j_sw1, j_ireturn, j_zreturn, j_lreturn, j_return, j_getfield, j_putI, j_putJ, j_putR, j_iaload, j_baload, j_iastore, j_bastore, j_aaload, j_q, j_aastore, j_acopy, j_mmin, j_mmax, j_mabs, j_objinit, j_new, j_newI, j_newQ, j_sld, j_slen, j_callV0, j_callI0, j_callS0, j_callV1, j_callI1, j_callS1, j_callV2, j_callI2, j_callS2, j_callV3, j_callS3, j_callV4, j_callS4, j_callV5, j_callS5, j_pushS, j_pushN, j_sh0, j_sh1, j_sh2, j_sh3, j_sh4, Int32.reduceAdd, Int32.reduceMul, Int32.reduceSub, Int32.reduceLT, Int32.reduceLE, eq_self, i32_10, i32_01, ne_eq, hrow_s, hrow_n, ne10, ne100, ne1000, ne7, ne4, ne14, ne9973, or_true, true_or, or_false, false_or, not_true_eq_false, not_false_eq_true, false_implies, implies_true, and_true, forall_const, true_implies, jargs_n, jargs_r, jargs_i, List.cons_append, List.nil_append, true_and, Nat.reduceEqDiff, reduceIte, ft_X5_faultOfHead_0, ft_X5_faultOfHead_1, ft_X5_faultOfHead_2, ft_X5_faultOfHead_5, ft_X5_faultOfHead_7, ft_X5_faultOfHead_10, ft_X5_faultOfHead_11, ft_X5_faultOfHead_12, ft_X5_faultOfHead_13, ft_X5_faultOfHead_14, ft_X5_faultOfHead_15, ft_X5_faultOfHead_17, ft_X5_faultOfHead_20, ft_X5_faultOfHead_23, ft_X5_faultOfHead_24, ft_X5_faultOfHead_25, ft_X5_faultOfHead_26, ft_X5_faultOfHead_27, ft_X5_faultOfHead_28, ft_X5_faultOfHead_30, ft_X5_faultOfHead_33, ft_X5_faultOfHead_36, ft_X5_faultOfHead_37, ft_X5_faultOfHead_38, ft_X5_faultOfHead_39, ft_X5_faultOfHead_40, ft_X5_faultOfHead_41, ft_X5_faultOfHead_43, ft_X5_faultOfHead_46, ft_X5_faultOfHead_49, ft_X5_faultOfHead_51, ft_X5_faultOfHead_54, ft_X5_faultOfHead_55, rc_1, s_X5_byteAt, s_X5_isDigit, zb_0]
  by_cases h0 : byteF (C 2) (C 1 1) 0 = 70 <;> by_cases h1 : dgF (C 2) (C 1 1) 1 0 9 <;> by_cases h2 : dgF (C 2) (C 1 1) 2 0 9 <;> by_cases h3 : dgF (C 2) (C 1 1) 3 1 9 <;> simp [headF, pick, h0, h1, h2, h3]
noncomputable def carFaultF (f : Nat → Int32) (len p : Int32) : Int32 := pick (dgF f len (p + 1) 0 9) (pick (dgF f len (p + 2) (pick (byteF f len (p + 1) - 48 = 0) 1 0) 9) (pick (dgF f len (p + 3) 1 9) (pick (dgF f len (p + 4) 0 9) (pick (dgF f len (p + 5) 0 2) (-9) (p + 5)) (p + 4)) (p + 3)) (p + 2)) (p + 1)
def F_X5_faultOfCar_0 : Nat → jT := fun pc => (bif Nat.blt pc 4 then (bif Nat.blt pc 2 then (bif Nat.blt pc 1 then (bif Nat.beq pc 0 then J_aload 0 1 else jbad) else (bif Nat.beq pc 1 then J_iload 1 2 else jbad)) else (bif Nat.blt pc 3 then (bif Nat.beq pc 2 then J_iconst 1 3 else jbad) else (bif Nat.beq pc 3 then J_iadd 4 else jbad))) else (bif Nat.blt pc 7 then (bif Nat.blt pc 5 then (bif Nat.beq pc 4 then J_iconst 0 5 else jbad) else (bif Nat.beq pc 5 then J_iconst 9 7 else jbad)) else (bif Nat.blt pc 10 then (bif Nat.beq pc 7 then J_callV 5 S_X5_isDigit 3 10 else jbad) else (bif Nat.beq pc 10 then J_ifne 17 13 else jbad))))
theorem ftl_X5_faultOfCar_0 : F_X5_faultOfCar_0 0 = J_aload 0 1 := rfl
theorem ftl_X5_faultOfCar_1 : F_X5_faultOfCar_0 1 = J_iload 1 2 := rfl
theorem ftl_X5_faultOfCar_2 : F_X5_faultOfCar_0 2 = J_iconst 1 3 := rfl
theorem ftl_X5_faultOfCar_3 : F_X5_faultOfCar_0 3 = J_iadd 4 := rfl
theorem ftl_X5_faultOfCar_4 : F_X5_faultOfCar_0 4 = J_iconst 0 5 := rfl
theorem ftl_X5_faultOfCar_5 : F_X5_faultOfCar_0 5 = J_iconst 9 7 := rfl
theorem ftl_X5_faultOfCar_7 : F_X5_faultOfCar_0 7 = J_callV 5 S_X5_isDigit 3 10 := rfl
theorem ftl_X5_faultOfCar_10 : F_X5_faultOfCar_0 10 = J_ifne 17 13 := rfl
theorem F_X5_faultOfCar_0_ok : jOK Y_X5_faultOfCar none (F_X5_faultOfCar_0) := (jOK_node (jOK_node (jOK_node (jOK_leaf (sn_aload_n dX5_faultOfCar_0 rfl rfl)) (jOK_leaf (sn_iload_n dX5_faultOfCar_1 rfl rfl))) (jOK_node (jOK_leaf (sn_iconst dX5_faultOfCar_2 rfl rfl)) (jOK_leaf (sn_iadd dX5_faultOfCar_3 rfl)))) (jOK_node (jOK_node (jOK_leaf (sn_iconst dX5_faultOfCar_4 rfl rfl)) (jOK_leaf (sn_bipush dX5_faultOfCar_5 rfl rfl))) (jOK_node (jOK_leaf (sn_callV (Y' := Y_X5_isDigit) ok_X5_isDigit dX5_faultOfCar_7 rfl rfl rfl tw_228 tw_230 tp_1 tw_2 jc_X5_isDigit rfl ⟨by decide, by decide, rfl⟩ ⟨by decide, by decide⟩)) (jOK_leaf (sn_ifne dX5_faultOfCar_10 rfl rfl)))))
def F_X5_faultOfCar_13 : Nat → jT := fun pc => (bif Nat.blt pc 17 then (bif Nat.blt pc 15 then (bif Nat.blt pc 14 then (bif Nat.beq pc 13 then J_iload 1 14 else jbad) else (bif Nat.beq pc 14 then J_iconst 1 15 else jbad)) else (bif Nat.blt pc 16 then (bif Nat.beq pc 15 then J_iadd 16 else jbad) else (bif Nat.beq pc 16 then J_ireturn 0 0 else jbad))) else (bif Nat.blt pc 19 then (bif Nat.blt pc 18 then (bif Nat.beq pc 17 then J_aload 0 18 else jbad) else (bif Nat.beq pc 18 then J_iload 1 19 else jbad)) else (bif Nat.blt pc 20 then (bif Nat.beq pc 19 then J_iconst 2 20 else jbad) else (bif Nat.blt pc 21 then (bif Nat.beq pc 20 then J_iadd 21 else jbad) else (bif Nat.beq pc 21 then J_aload 0 22 else jbad)))))
theorem ftl_X5_faultOfCar_13 : F_X5_faultOfCar_13 13 = J_iload 1 14 := rfl
theorem ftl_X5_faultOfCar_14 : F_X5_faultOfCar_13 14 = J_iconst 1 15 := rfl
theorem ftl_X5_faultOfCar_15 : F_X5_faultOfCar_13 15 = J_iadd 16 := rfl
theorem ftl_X5_faultOfCar_16 : F_X5_faultOfCar_13 16 = J_ireturn 0 0 := rfl
theorem ftl_X5_faultOfCar_17 : F_X5_faultOfCar_13 17 = J_aload 0 18 := rfl
theorem ftl_X5_faultOfCar_18 : F_X5_faultOfCar_13 18 = J_iload 1 19 := rfl
theorem ftl_X5_faultOfCar_19 : F_X5_faultOfCar_13 19 = J_iconst 2 20 := rfl
theorem ftl_X5_faultOfCar_20 : F_X5_faultOfCar_13 20 = J_iadd 21 := rfl
theorem ftl_X5_faultOfCar_21 : F_X5_faultOfCar_13 21 = J_aload 0 22 := rfl
theorem F_X5_faultOfCar_13_ok : jOK Y_X5_faultOfCar none (F_X5_faultOfCar_13) := (jOK_node (jOK_node (jOK_node (jOK_leaf (sn_iload_n dX5_faultOfCar_13 rfl rfl)) (jOK_leaf (sn_iconst dX5_faultOfCar_14 rfl rfl))) (jOK_node (jOK_leaf (sn_iadd dX5_faultOfCar_15 rfl)) (jOK_leaf (sn_ireturn dX5_faultOfCar_16 rfl rfl)))) (jOK_node (jOK_node (jOK_leaf (sn_aload_n dX5_faultOfCar_17 rfl rfl)) (jOK_leaf (sn_iload_n dX5_faultOfCar_18 rfl rfl))) (jOK_node (jOK_leaf (sn_iconst dX5_faultOfCar_19 rfl rfl)) (jOK_node (jOK_leaf (sn_iadd dX5_faultOfCar_20 rfl)) (jOK_leaf (sn_aload_n dX5_faultOfCar_21 rfl rfl))))))
def F_X5_faultOfCar_0_21 : Nat → jT := fun pc => bif Nat.blt pc 13 then F_X5_faultOfCar_0 pc else F_X5_faultOfCar_13 pc
theorem F_X5_faultOfCar_0_21_ok : jOK Y_X5_faultOfCar none (F_X5_faultOfCar_0_21) := jOK_node (F_X5_faultOfCar_0_ok) (F_X5_faultOfCar_13_ok)
def F_X5_faultOfCar_22 : Nat → jT := fun pc => (bif Nat.blt pc 28 then (bif Nat.blt pc 24 then (bif Nat.blt pc 23 then (bif Nat.beq pc 22 then J_iload 1 23 else jbad) else (bif Nat.beq pc 23 then J_iconst 1 24 else jbad)) else (bif Nat.blt pc 25 then (bif Nat.beq pc 24 then J_iadd 25 else jbad) else (bif Nat.beq pc 25 then J_callV 5 S_X5_digitAt 1 28 else jbad))) else (bif Nat.blt pc 32 then (bif Nat.blt pc 31 then (bif Nat.beq pc 28 then J_ifne 35 31 else jbad) else (bif Nat.beq pc 31 then J_iconst 1 32 else jbad)) else (bif Nat.blt pc 35 then (bif Nat.beq pc 32 then J_goto 36 else jbad) else (bif Nat.blt pc 36 then (bif Nat.beq pc 35 then J_iconst 0 36 else jbad) else (bif Nat.beq pc 36 then J_iconst 9 38 else jbad)))))
theorem ftl_X5_faultOfCar_22 : F_X5_faultOfCar_22 22 = J_iload 1 23 := rfl
theorem ftl_X5_faultOfCar_23 : F_X5_faultOfCar_22 23 = J_iconst 1 24 := rfl
theorem ftl_X5_faultOfCar_24 : F_X5_faultOfCar_22 24 = J_iadd 25 := rfl
theorem ftl_X5_faultOfCar_25 : F_X5_faultOfCar_22 25 = J_callV 5 S_X5_digitAt 1 28 := rfl
theorem ftl_X5_faultOfCar_28 : F_X5_faultOfCar_22 28 = J_ifne 35 31 := rfl
theorem ftl_X5_faultOfCar_31 : F_X5_faultOfCar_22 31 = J_iconst 1 32 := rfl
theorem ftl_X5_faultOfCar_32 : F_X5_faultOfCar_22 32 = J_goto 36 := rfl
theorem ftl_X5_faultOfCar_35 : F_X5_faultOfCar_22 35 = J_iconst 0 36 := rfl
theorem ftl_X5_faultOfCar_36 : F_X5_faultOfCar_22 36 = J_iconst 9 38 := rfl
theorem F_X5_faultOfCar_22_ok : jOK Y_X5_faultOfCar none (F_X5_faultOfCar_22) := (jOK_node (jOK_node (jOK_node (jOK_leaf (sn_iload_n dX5_faultOfCar_22 rfl rfl)) (jOK_leaf (sn_iconst dX5_faultOfCar_23 rfl rfl))) (jOK_node (jOK_leaf (sn_iadd dX5_faultOfCar_24 rfl)) (jOK_leaf (sn_callV (Y' := Y_X5_digitAt) ok_X5_digitAt dX5_faultOfCar_25 rfl rfl rfl tw_232 tw_233 tw_234 tw_2 jc_X5_digitAt rfl ⟨by decide, by decide, rfl⟩ ⟨by decide, by decide⟩)))) (jOK_node (jOK_node (jOK_leaf (sn_ifne dX5_faultOfCar_28 rfl rfl)) (jOK_leaf (sn_iconst dX5_faultOfCar_31 rfl rfl))) (jOK_node (jOK_leaf (sn_goto dX5_faultOfCar_32 rfl)) (jOK_node (jOK_leaf (sn_iconst dX5_faultOfCar_35 rfl rfl)) (jOK_leaf (sn_bipush dX5_faultOfCar_36 rfl rfl))))))
def F_X5_faultOfCar_38 : Nat → jT := fun pc => (bif Nat.blt pc 46 then (bif Nat.blt pc 44 then (bif Nat.blt pc 41 then (bif Nat.beq pc 38 then J_callV 5 S_X5_isDigit 3 41 else jbad) else (bif Nat.beq pc 41 then J_ifne 48 44 else jbad)) else (bif Nat.blt pc 45 then (bif Nat.beq pc 44 then J_iload 1 45 else jbad) else (bif Nat.beq pc 45 then J_iconst 2 46 else jbad))) else (bif Nat.blt pc 48 then (bif Nat.blt pc 47 then (bif Nat.beq pc 46 then J_iadd 47 else jbad) else (bif Nat.beq pc 47 then J_ireturn 0 0 else jbad)) else (bif Nat.blt pc 49 then (bif Nat.beq pc 48 then J_aload 0 49 else jbad) else (bif Nat.blt pc 50 then (bif Nat.beq pc 49 then J_iload 1 50 else jbad) else (bif Nat.beq pc 50 then J_iconst 3 51 else jbad)))))
theorem ftl_X5_faultOfCar_38 : F_X5_faultOfCar_38 38 = J_callV 5 S_X5_isDigit 3 41 := rfl
theorem ftl_X5_faultOfCar_41 : F_X5_faultOfCar_38 41 = J_ifne 48 44 := rfl
theorem ftl_X5_faultOfCar_44 : F_X5_faultOfCar_38 44 = J_iload 1 45 := rfl
theorem ftl_X5_faultOfCar_45 : F_X5_faultOfCar_38 45 = J_iconst 2 46 := rfl
theorem ftl_X5_faultOfCar_46 : F_X5_faultOfCar_38 46 = J_iadd 47 := rfl
theorem ftl_X5_faultOfCar_47 : F_X5_faultOfCar_38 47 = J_ireturn 0 0 := rfl
theorem ftl_X5_faultOfCar_48 : F_X5_faultOfCar_38 48 = J_aload 0 49 := rfl
theorem ftl_X5_faultOfCar_49 : F_X5_faultOfCar_38 49 = J_iload 1 50 := rfl
theorem ftl_X5_faultOfCar_50 : F_X5_faultOfCar_38 50 = J_iconst 3 51 := rfl
theorem F_X5_faultOfCar_38_ok : jOK Y_X5_faultOfCar none (F_X5_faultOfCar_38) := (jOK_node (jOK_node (jOK_node (jOK_leaf (sn_callV (Y' := Y_X5_isDigit) ok_X5_isDigit dX5_faultOfCar_38 rfl rfl rfl tw_228 tw_230 tp_1 tw_2 jc_X5_isDigit rfl ⟨by decide, by decide, rfl⟩ ⟨by decide, by decide⟩)) (jOK_leaf (sn_ifne dX5_faultOfCar_41 rfl rfl))) (jOK_node (jOK_leaf (sn_iload_n dX5_faultOfCar_44 rfl rfl)) (jOK_leaf (sn_iconst dX5_faultOfCar_45 rfl rfl)))) (jOK_node (jOK_node (jOK_leaf (sn_iadd dX5_faultOfCar_46 rfl)) (jOK_leaf (sn_ireturn dX5_faultOfCar_47 rfl rfl))) (jOK_node (jOK_leaf (sn_aload_n dX5_faultOfCar_48 rfl rfl)) (jOK_node (jOK_leaf (sn_iload_n dX5_faultOfCar_49 rfl rfl)) (jOK_leaf (sn_iconst dX5_faultOfCar_50 rfl rfl))))))
def F_X5_faultOfCar_22_50 : Nat → jT := fun pc => bif Nat.blt pc 38 then F_X5_faultOfCar_22 pc else F_X5_faultOfCar_38 pc
theorem F_X5_faultOfCar_22_50_ok : jOK Y_X5_faultOfCar none (F_X5_faultOfCar_22_50) := jOK_node (F_X5_faultOfCar_22_ok) (F_X5_faultOfCar_38_ok)
def F_X5_faultOfCar_0_50 : Nat → jT := fun pc => bif Nat.blt pc 22 then F_X5_faultOfCar_0_21 pc else F_X5_faultOfCar_22_50 pc
theorem F_X5_faultOfCar_0_50_ok : jOK Y_X5_faultOfCar none (F_X5_faultOfCar_0_50) := jOK_node (F_X5_faultOfCar_0_21_ok) (F_X5_faultOfCar_22_50_ok)
def F_X5_faultOfCar_51 : Nat → jT := fun pc => (bif Nat.blt pc 58 then (bif Nat.blt pc 53 then (bif Nat.blt pc 52 then (bif Nat.beq pc 51 then J_iadd 52 else jbad) else (bif Nat.beq pc 52 then J_iconst 1 53 else jbad)) else (bif Nat.blt pc 55 then (bif Nat.beq pc 53 then J_iconst 9 55 else jbad) else (bif Nat.beq pc 55 then J_callV 5 S_X5_isDigit 3 58 else jbad))) else (bif Nat.blt pc 62 then (bif Nat.blt pc 61 then (bif Nat.beq pc 58 then J_ifne 65 61 else jbad) else (bif Nat.beq pc 61 then J_iload 1 62 else jbad)) else (bif Nat.blt pc 63 then (bif Nat.beq pc 62 then J_iconst 3 63 else jbad) else (bif Nat.beq pc 63 then J_iadd 64 else jbad))))
theorem ftl_X5_faultOfCar_51 : F_X5_faultOfCar_51 51 = J_iadd 52 := rfl
theorem ftl_X5_faultOfCar_52 : F_X5_faultOfCar_51 52 = J_iconst 1 53 := rfl
theorem ftl_X5_faultOfCar_53 : F_X5_faultOfCar_51 53 = J_iconst 9 55 := rfl
theorem ftl_X5_faultOfCar_55 : F_X5_faultOfCar_51 55 = J_callV 5 S_X5_isDigit 3 58 := rfl
theorem ftl_X5_faultOfCar_58 : F_X5_faultOfCar_51 58 = J_ifne 65 61 := rfl
theorem ftl_X5_faultOfCar_61 : F_X5_faultOfCar_51 61 = J_iload 1 62 := rfl
theorem ftl_X5_faultOfCar_62 : F_X5_faultOfCar_51 62 = J_iconst 3 63 := rfl
theorem ftl_X5_faultOfCar_63 : F_X5_faultOfCar_51 63 = J_iadd 64 := rfl
theorem F_X5_faultOfCar_51_ok : jOK Y_X5_faultOfCar none (F_X5_faultOfCar_51) := (jOK_node (jOK_node (jOK_node (jOK_leaf (sn_iadd dX5_faultOfCar_51 rfl)) (jOK_leaf (sn_iconst dX5_faultOfCar_52 rfl rfl))) (jOK_node (jOK_leaf (sn_bipush dX5_faultOfCar_53 rfl rfl)) (jOK_leaf (sn_callV (Y' := Y_X5_isDigit) ok_X5_isDigit dX5_faultOfCar_55 rfl rfl rfl tw_228 tw_230 tp_1 tw_2 jc_X5_isDigit rfl ⟨by decide, by decide, rfl⟩ ⟨by decide, by decide⟩)))) (jOK_node (jOK_node (jOK_leaf (sn_ifne dX5_faultOfCar_58 rfl rfl)) (jOK_leaf (sn_iload_n dX5_faultOfCar_61 rfl rfl))) (jOK_node (jOK_leaf (sn_iconst dX5_faultOfCar_62 rfl rfl)) (jOK_leaf (sn_iadd dX5_faultOfCar_63 rfl)))))
def F_X5_faultOfCar_64 : Nat → jT := fun pc => (bif Nat.blt pc 68 then (bif Nat.blt pc 66 then (bif Nat.blt pc 65 then (bif Nat.beq pc 64 then J_ireturn 0 0 else jbad) else (bif Nat.beq pc 65 then J_aload 0 66 else jbad)) else (bif Nat.blt pc 67 then (bif Nat.beq pc 66 then J_iload 1 67 else jbad) else (bif Nat.beq pc 67 then J_iconst 4 68 else jbad))) else (bif Nat.blt pc 70 then (bif Nat.blt pc 69 then (bif Nat.beq pc 68 then J_iadd 69 else jbad) else (bif Nat.beq pc 69 then J_iconst 0 70 else jbad)) else (bif Nat.blt pc 72 then (bif Nat.beq pc 70 then J_iconst 9 72 else jbad) else (bif Nat.blt pc 75 then (bif Nat.beq pc 72 then J_callV 5 S_X5_isDigit 3 75 else jbad) else (bif Nat.beq pc 75 then J_ifne 82 78 else jbad)))))
theorem ftl_X5_faultOfCar_64 : F_X5_faultOfCar_64 64 = J_ireturn 0 0 := rfl
theorem ftl_X5_faultOfCar_65 : F_X5_faultOfCar_64 65 = J_aload 0 66 := rfl
theorem ftl_X5_faultOfCar_66 : F_X5_faultOfCar_64 66 = J_iload 1 67 := rfl
theorem ftl_X5_faultOfCar_67 : F_X5_faultOfCar_64 67 = J_iconst 4 68 := rfl
theorem ftl_X5_faultOfCar_68 : F_X5_faultOfCar_64 68 = J_iadd 69 := rfl
theorem ftl_X5_faultOfCar_69 : F_X5_faultOfCar_64 69 = J_iconst 0 70 := rfl
theorem ftl_X5_faultOfCar_70 : F_X5_faultOfCar_64 70 = J_iconst 9 72 := rfl
theorem ftl_X5_faultOfCar_72 : F_X5_faultOfCar_64 72 = J_callV 5 S_X5_isDigit 3 75 := rfl
theorem ftl_X5_faultOfCar_75 : F_X5_faultOfCar_64 75 = J_ifne 82 78 := rfl
theorem F_X5_faultOfCar_64_ok : jOK Y_X5_faultOfCar none (F_X5_faultOfCar_64) := (jOK_node (jOK_node (jOK_node (jOK_leaf (sn_ireturn dX5_faultOfCar_64 rfl rfl)) (jOK_leaf (sn_aload_n dX5_faultOfCar_65 rfl rfl))) (jOK_node (jOK_leaf (sn_iload_n dX5_faultOfCar_66 rfl rfl)) (jOK_leaf (sn_iconst dX5_faultOfCar_67 rfl rfl)))) (jOK_node (jOK_node (jOK_leaf (sn_iadd dX5_faultOfCar_68 rfl)) (jOK_leaf (sn_iconst dX5_faultOfCar_69 rfl rfl))) (jOK_node (jOK_leaf (sn_bipush dX5_faultOfCar_70 rfl rfl)) (jOK_node (jOK_leaf (sn_callV (Y' := Y_X5_isDigit) ok_X5_isDigit dX5_faultOfCar_72 rfl rfl rfl tw_228 tw_230 tp_1 tw_2 jc_X5_isDigit rfl ⟨by decide, by decide, rfl⟩ ⟨by decide, by decide⟩)) (jOK_leaf (sn_ifne dX5_faultOfCar_75 rfl rfl))))))
def F_X5_faultOfCar_51_75 : Nat → jT := fun pc => bif Nat.blt pc 64 then F_X5_faultOfCar_51 pc else F_X5_faultOfCar_64 pc
theorem F_X5_faultOfCar_51_75_ok : jOK Y_X5_faultOfCar none (F_X5_faultOfCar_51_75) := jOK_node (F_X5_faultOfCar_51_ok) (F_X5_faultOfCar_64_ok)
def F_X5_faultOfCar_78 : Nat → jT := fun pc => (bif Nat.blt pc 82 then (bif Nat.blt pc 80 then (bif Nat.blt pc 79 then (bif Nat.beq pc 78 then J_iload 1 79 else jbad) else (bif Nat.beq pc 79 then J_iconst 4 80 else jbad)) else (bif Nat.blt pc 81 then (bif Nat.beq pc 80 then J_iadd 81 else jbad) else (bif Nat.beq pc 81 then J_ireturn 0 0 else jbad))) else (bif Nat.blt pc 84 then (bif Nat.blt pc 83 then (bif Nat.beq pc 82 then J_aload 0 83 else jbad) else (bif Nat.beq pc 83 then J_iload 1 84 else jbad)) else (bif Nat.blt pc 85 then (bif Nat.beq pc 84 then J_iconst 5 85 else jbad) else (bif Nat.blt pc 86 then (bif Nat.beq pc 85 then J_iadd 86 else jbad) else (bif Nat.beq pc 86 then J_iconst 0 87 else jbad)))))
theorem ftl_X5_faultOfCar_78 : F_X5_faultOfCar_78 78 = J_iload 1 79 := rfl
theorem ftl_X5_faultOfCar_79 : F_X5_faultOfCar_78 79 = J_iconst 4 80 := rfl
theorem ftl_X5_faultOfCar_80 : F_X5_faultOfCar_78 80 = J_iadd 81 := rfl
theorem ftl_X5_faultOfCar_81 : F_X5_faultOfCar_78 81 = J_ireturn 0 0 := rfl
theorem ftl_X5_faultOfCar_82 : F_X5_faultOfCar_78 82 = J_aload 0 83 := rfl
theorem ftl_X5_faultOfCar_83 : F_X5_faultOfCar_78 83 = J_iload 1 84 := rfl
theorem ftl_X5_faultOfCar_84 : F_X5_faultOfCar_78 84 = J_iconst 5 85 := rfl
theorem ftl_X5_faultOfCar_85 : F_X5_faultOfCar_78 85 = J_iadd 86 := rfl
theorem ftl_X5_faultOfCar_86 : F_X5_faultOfCar_78 86 = J_iconst 0 87 := rfl
theorem F_X5_faultOfCar_78_ok : jOK Y_X5_faultOfCar none (F_X5_faultOfCar_78) := (jOK_node (jOK_node (jOK_node (jOK_leaf (sn_iload_n dX5_faultOfCar_78 rfl rfl)) (jOK_leaf (sn_iconst dX5_faultOfCar_79 rfl rfl))) (jOK_node (jOK_leaf (sn_iadd dX5_faultOfCar_80 rfl)) (jOK_leaf (sn_ireturn dX5_faultOfCar_81 rfl rfl)))) (jOK_node (jOK_node (jOK_leaf (sn_aload_n dX5_faultOfCar_82 rfl rfl)) (jOK_leaf (sn_iload_n dX5_faultOfCar_83 rfl rfl))) (jOK_node (jOK_leaf (sn_iconst dX5_faultOfCar_84 rfl rfl)) (jOK_node (jOK_leaf (sn_iadd dX5_faultOfCar_85 rfl)) (jOK_leaf (sn_iconst dX5_faultOfCar_86 rfl rfl))))))
def F_X5_faultOfCar_87 : Nat → jT := fun pc => (bif Nat.blt pc 96 then (bif Nat.blt pc 91 then (bif Nat.blt pc 88 then (bif Nat.beq pc 87 then J_iconst 2 88 else jbad) else (bif Nat.beq pc 88 then J_callV 5 S_X5_isDigit 3 91 else jbad)) else (bif Nat.blt pc 94 then (bif Nat.beq pc 91 then J_ifeq 99 94 else jbad) else (bif Nat.beq pc 94 then J_iconst (-9) 96 else jbad))) else (bif Nat.blt pc 100 then (bif Nat.blt pc 99 then (bif Nat.beq pc 96 then J_goto 102 else jbad) else (bif Nat.beq pc 99 then J_iload 1 100 else jbad)) else (bif Nat.blt pc 101 then (bif Nat.beq pc 100 then J_iconst 5 101 else jbad) else (bif Nat.blt pc 102 then (bif Nat.beq pc 101 then J_iadd 102 else jbad) else (bif Nat.beq pc 102 then J_ireturn 0 0 else jbad)))))
theorem ftl_X5_faultOfCar_87 : F_X5_faultOfCar_87 87 = J_iconst 2 88 := rfl
theorem ftl_X5_faultOfCar_88 : F_X5_faultOfCar_87 88 = J_callV 5 S_X5_isDigit 3 91 := rfl
theorem ftl_X5_faultOfCar_91 : F_X5_faultOfCar_87 91 = J_ifeq 99 94 := rfl
theorem ftl_X5_faultOfCar_94 : F_X5_faultOfCar_87 94 = J_iconst (-9) 96 := rfl
theorem ftl_X5_faultOfCar_96 : F_X5_faultOfCar_87 96 = J_goto 102 := rfl
theorem ftl_X5_faultOfCar_99 : F_X5_faultOfCar_87 99 = J_iload 1 100 := rfl
theorem ftl_X5_faultOfCar_100 : F_X5_faultOfCar_87 100 = J_iconst 5 101 := rfl
theorem ftl_X5_faultOfCar_101 : F_X5_faultOfCar_87 101 = J_iadd 102 := rfl
theorem ftl_X5_faultOfCar_102 : F_X5_faultOfCar_87 102 = J_ireturn 0 0 := rfl
theorem F_X5_faultOfCar_87_ok : jOK Y_X5_faultOfCar none (F_X5_faultOfCar_87) := (jOK_node (jOK_node (jOK_node (jOK_leaf (sn_iconst dX5_faultOfCar_87 rfl rfl)) (jOK_leaf (sn_callV (Y' := Y_X5_isDigit) ok_X5_isDigit dX5_faultOfCar_88 rfl rfl rfl tw_228 tw_230 tp_1 tw_2 jc_X5_isDigit rfl ⟨by decide, by decide, rfl⟩ ⟨by decide, by decide⟩))) (jOK_node (jOK_leaf (sn_ifeq dX5_faultOfCar_91 rfl rfl)) (jOK_leaf (sn_bipush dX5_faultOfCar_94 rfl rfl)))) (jOK_node (jOK_node (jOK_leaf (sn_goto dX5_faultOfCar_96 rfl)) (jOK_leaf (sn_iload_n dX5_faultOfCar_99 rfl rfl))) (jOK_node (jOK_leaf (sn_iconst dX5_faultOfCar_100 rfl rfl)) (jOK_node (jOK_leaf (sn_iadd dX5_faultOfCar_101 rfl)) (jOK_leaf (sn_ireturn dX5_faultOfCar_102 rfl rfl))))))
def F_X5_faultOfCar_78_102 : Nat → jT := fun pc => bif Nat.blt pc 87 then F_X5_faultOfCar_78 pc else F_X5_faultOfCar_87 pc
theorem F_X5_faultOfCar_78_102_ok : jOK Y_X5_faultOfCar none (F_X5_faultOfCar_78_102) := jOK_node (F_X5_faultOfCar_78_ok) (F_X5_faultOfCar_87_ok)
def F_X5_faultOfCar_51_102 : Nat → jT := fun pc => bif Nat.blt pc 78 then F_X5_faultOfCar_51_75 pc else F_X5_faultOfCar_78_102 pc
theorem F_X5_faultOfCar_51_102_ok : jOK Y_X5_faultOfCar none (F_X5_faultOfCar_51_102) := jOK_node (F_X5_faultOfCar_51_75_ok) (F_X5_faultOfCar_78_102_ok)
def F_X5_faultOfCar_0_102 : Nat → jT := fun pc => bif Nat.blt pc 51 then F_X5_faultOfCar_0_50 pc else F_X5_faultOfCar_51_102 pc
theorem F_X5_faultOfCar_0_102_ok : jOK Y_X5_faultOfCar none (F_X5_faultOfCar_0_102) := jOK_node (F_X5_faultOfCar_0_50_ok) (F_X5_faultOfCar_51_102_ok)
def F_X5_faultOfCar : Nat → jT := F_X5_faultOfCar_0_102
theorem OK_X5_faultOfCar : jOK Y_X5_faultOfCar none (F_X5_faultOfCar) := F_X5_faultOfCar_0_102_ok
theorem ft_X5_faultOfCar_0 : F_X5_faultOfCar 0 = J_aload 0 1 := ftl_X5_faultOfCar_0
theorem ft_X5_faultOfCar_1 : F_X5_faultOfCar 1 = J_iload 1 2 := ftl_X5_faultOfCar_1
theorem ft_X5_faultOfCar_2 : F_X5_faultOfCar 2 = J_iconst 1 3 := ftl_X5_faultOfCar_2
theorem ft_X5_faultOfCar_3 : F_X5_faultOfCar 3 = J_iadd 4 := ftl_X5_faultOfCar_3
theorem ft_X5_faultOfCar_4 : F_X5_faultOfCar 4 = J_iconst 0 5 := ftl_X5_faultOfCar_4
theorem ft_X5_faultOfCar_5 : F_X5_faultOfCar 5 = J_iconst 9 7 := ftl_X5_faultOfCar_5
theorem ft_X5_faultOfCar_7 : F_X5_faultOfCar 7 = J_callV 5 S_X5_isDigit 3 10 := ftl_X5_faultOfCar_7
theorem ft_X5_faultOfCar_10 : F_X5_faultOfCar 10 = J_ifne 17 13 := ftl_X5_faultOfCar_10
theorem ft_X5_faultOfCar_13 : F_X5_faultOfCar 13 = J_iload 1 14 := ftl_X5_faultOfCar_13
theorem ft_X5_faultOfCar_14 : F_X5_faultOfCar 14 = J_iconst 1 15 := ftl_X5_faultOfCar_14
theorem ft_X5_faultOfCar_15 : F_X5_faultOfCar 15 = J_iadd 16 := ftl_X5_faultOfCar_15
theorem ft_X5_faultOfCar_16 : F_X5_faultOfCar 16 = J_ireturn 0 0 := ftl_X5_faultOfCar_16
theorem ft_X5_faultOfCar_17 : F_X5_faultOfCar 17 = J_aload 0 18 := ftl_X5_faultOfCar_17
theorem ft_X5_faultOfCar_18 : F_X5_faultOfCar 18 = J_iload 1 19 := ftl_X5_faultOfCar_18
theorem ft_X5_faultOfCar_19 : F_X5_faultOfCar 19 = J_iconst 2 20 := ftl_X5_faultOfCar_19
theorem ft_X5_faultOfCar_20 : F_X5_faultOfCar 20 = J_iadd 21 := ftl_X5_faultOfCar_20
theorem ft_X5_faultOfCar_21 : F_X5_faultOfCar 21 = J_aload 0 22 := ftl_X5_faultOfCar_21
theorem ft_X5_faultOfCar_22 : F_X5_faultOfCar 22 = J_iload 1 23 := ftl_X5_faultOfCar_22
theorem ft_X5_faultOfCar_23 : F_X5_faultOfCar 23 = J_iconst 1 24 := ftl_X5_faultOfCar_23
theorem ft_X5_faultOfCar_24 : F_X5_faultOfCar 24 = J_iadd 25 := ftl_X5_faultOfCar_24
theorem ft_X5_faultOfCar_25 : F_X5_faultOfCar 25 = J_callV 5 S_X5_digitAt 1 28 := ftl_X5_faultOfCar_25
theorem ft_X5_faultOfCar_28 : F_X5_faultOfCar 28 = J_ifne 35 31 := ftl_X5_faultOfCar_28
theorem ft_X5_faultOfCar_31 : F_X5_faultOfCar 31 = J_iconst 1 32 := ftl_X5_faultOfCar_31
theorem ft_X5_faultOfCar_32 : F_X5_faultOfCar 32 = J_goto 36 := ftl_X5_faultOfCar_32
theorem ft_X5_faultOfCar_35 : F_X5_faultOfCar 35 = J_iconst 0 36 := ftl_X5_faultOfCar_35
theorem ft_X5_faultOfCar_36 : F_X5_faultOfCar 36 = J_iconst 9 38 := ftl_X5_faultOfCar_36
theorem ft_X5_faultOfCar_38 : F_X5_faultOfCar 38 = J_callV 5 S_X5_isDigit 3 41 := ftl_X5_faultOfCar_38
theorem ft_X5_faultOfCar_41 : F_X5_faultOfCar 41 = J_ifne 48 44 := ftl_X5_faultOfCar_41
theorem ft_X5_faultOfCar_44 : F_X5_faultOfCar 44 = J_iload 1 45 := ftl_X5_faultOfCar_44
theorem ft_X5_faultOfCar_45 : F_X5_faultOfCar 45 = J_iconst 2 46 := ftl_X5_faultOfCar_45
theorem ft_X5_faultOfCar_46 : F_X5_faultOfCar 46 = J_iadd 47 := ftl_X5_faultOfCar_46
theorem ft_X5_faultOfCar_47 : F_X5_faultOfCar 47 = J_ireturn 0 0 := ftl_X5_faultOfCar_47
theorem ft_X5_faultOfCar_48 : F_X5_faultOfCar 48 = J_aload 0 49 := ftl_X5_faultOfCar_48
theorem ft_X5_faultOfCar_49 : F_X5_faultOfCar 49 = J_iload 1 50 := ftl_X5_faultOfCar_49
theorem ft_X5_faultOfCar_50 : F_X5_faultOfCar 50 = J_iconst 3 51 := ftl_X5_faultOfCar_50
theorem ft_X5_faultOfCar_51 : F_X5_faultOfCar 51 = J_iadd 52 := ftl_X5_faultOfCar_51
theorem ft_X5_faultOfCar_52 : F_X5_faultOfCar 52 = J_iconst 1 53 := ftl_X5_faultOfCar_52
theorem ft_X5_faultOfCar_53 : F_X5_faultOfCar 53 = J_iconst 9 55 := ftl_X5_faultOfCar_53
theorem ft_X5_faultOfCar_55 : F_X5_faultOfCar 55 = J_callV 5 S_X5_isDigit 3 58 := ftl_X5_faultOfCar_55
theorem ft_X5_faultOfCar_58 : F_X5_faultOfCar 58 = J_ifne 65 61 := ftl_X5_faultOfCar_58
theorem ft_X5_faultOfCar_61 : F_X5_faultOfCar 61 = J_iload 1 62 := ftl_X5_faultOfCar_61
theorem ft_X5_faultOfCar_62 : F_X5_faultOfCar 62 = J_iconst 3 63 := ftl_X5_faultOfCar_62
theorem ft_X5_faultOfCar_63 : F_X5_faultOfCar 63 = J_iadd 64 := ftl_X5_faultOfCar_63
theorem ft_X5_faultOfCar_64 : F_X5_faultOfCar 64 = J_ireturn 0 0 := ftl_X5_faultOfCar_64
theorem ft_X5_faultOfCar_65 : F_X5_faultOfCar 65 = J_aload 0 66 := ftl_X5_faultOfCar_65
theorem ft_X5_faultOfCar_66 : F_X5_faultOfCar 66 = J_iload 1 67 := ftl_X5_faultOfCar_66
theorem ft_X5_faultOfCar_67 : F_X5_faultOfCar 67 = J_iconst 4 68 := ftl_X5_faultOfCar_67
theorem ft_X5_faultOfCar_68 : F_X5_faultOfCar 68 = J_iadd 69 := ftl_X5_faultOfCar_68
theorem ft_X5_faultOfCar_69 : F_X5_faultOfCar 69 = J_iconst 0 70 := ftl_X5_faultOfCar_69
theorem ft_X5_faultOfCar_70 : F_X5_faultOfCar 70 = J_iconst 9 72 := ftl_X5_faultOfCar_70
theorem ft_X5_faultOfCar_72 : F_X5_faultOfCar 72 = J_callV 5 S_X5_isDigit 3 75 := ftl_X5_faultOfCar_72
theorem ft_X5_faultOfCar_75 : F_X5_faultOfCar 75 = J_ifne 82 78 := ftl_X5_faultOfCar_75
theorem ft_X5_faultOfCar_78 : F_X5_faultOfCar 78 = J_iload 1 79 := ftl_X5_faultOfCar_78
theorem ft_X5_faultOfCar_79 : F_X5_faultOfCar 79 = J_iconst 4 80 := ftl_X5_faultOfCar_79
theorem ft_X5_faultOfCar_80 : F_X5_faultOfCar 80 = J_iadd 81 := ftl_X5_faultOfCar_80
theorem ft_X5_faultOfCar_81 : F_X5_faultOfCar 81 = J_ireturn 0 0 := ftl_X5_faultOfCar_81
theorem ft_X5_faultOfCar_82 : F_X5_faultOfCar 82 = J_aload 0 83 := ftl_X5_faultOfCar_82
theorem ft_X5_faultOfCar_83 : F_X5_faultOfCar 83 = J_iload 1 84 := ftl_X5_faultOfCar_83
theorem ft_X5_faultOfCar_84 : F_X5_faultOfCar 84 = J_iconst 5 85 := ftl_X5_faultOfCar_84
theorem ft_X5_faultOfCar_85 : F_X5_faultOfCar 85 = J_iadd 86 := ftl_X5_faultOfCar_85
theorem ft_X5_faultOfCar_86 : F_X5_faultOfCar 86 = J_iconst 0 87 := ftl_X5_faultOfCar_86
theorem ft_X5_faultOfCar_87 : F_X5_faultOfCar 87 = J_iconst 2 88 := ftl_X5_faultOfCar_87
theorem ft_X5_faultOfCar_88 : F_X5_faultOfCar 88 = J_callV 5 S_X5_isDigit 3 91 := ftl_X5_faultOfCar_88
theorem ft_X5_faultOfCar_91 : F_X5_faultOfCar 91 = J_ifeq 99 94 := ftl_X5_faultOfCar_91
theorem ft_X5_faultOfCar_94 : F_X5_faultOfCar 94 = J_iconst (-9) 96 := ftl_X5_faultOfCar_94
theorem ft_X5_faultOfCar_96 : F_X5_faultOfCar 96 = J_goto 102 := ftl_X5_faultOfCar_96
theorem ft_X5_faultOfCar_99 : F_X5_faultOfCar 99 = J_iload 1 100 := ftl_X5_faultOfCar_99
theorem ft_X5_faultOfCar_100 : F_X5_faultOfCar 100 = J_iconst 5 101 := ftl_X5_faultOfCar_100
theorem ft_X5_faultOfCar_101 : F_X5_faultOfCar 101 = J_iadd 102 := ftl_X5_faultOfCar_101
theorem ft_X5_faultOfCar_102 : F_X5_faultOfCar 102 = J_ireturn 0 0 := ftl_X5_faultOfCar_102
def S_X5_faultOfCar : jSp := fun nb vs mem Q => jcs vs ≤ 2 ∧ jrun F_X5_faultOfCar [] 120 Q (fun _ _ _ _ _ => False) 0 (jargs vs ++ []) [] mem (nb, 0, 0)
theorem ok_X5_faultOfCar : jMeets Y_X5_faultOfCar S_X5_faultOfCar := fun _ _ _ _ h => Ok.inl OK_X5_faultOfCar 120 [] pn5 rfl h
theorem s_X5_faultOfCar {nb : Nat} {C : Nat → Nat → Int32} {z : Nat → Int64} {p : Int32} {Q : jQ} : S_X5_faultOfCar nb [.ref 1, .int p] (memS 94 C z) Q = Q (some (.int (carFaultF (C 2) (C 1 1) p))) (memS 94 C z) := by
  refine (eq_le rfl).trans ?_
  simp -implicitDefEqProofs only [jr_0, jr_1, jr_2, j_iconst, j_lconst, j_iload0, j_aload0, j_istore0, j_astore0, j_iinc0, j_iload1, j_aload1, j_istore1, j_astore1, j_iinc1, j_iload2, j_aload2, j_istore2, j_astore2, j_iinc2, j_iload3, j_aload3, j_istore3, j_astore3, j_iinc3, j_iload4, j_aload4, j_istore4, j_astore4, j_iinc4, j_iload5, j_aload5, j_istore5, j_astore5, j_iinc5, j_iload6, j_aload6, j_istore6, j_astore6, j_iinc6, j_iload7, j_aload7, j_istore7, j_astore7, j_iinc7, j_iload8, j_aload8, j_istore8, j_astore8, j_iinc8, j_iadd, j_isub, j_imul, j_iand, j_ior, j_ixor, j_ishl, j_ishr, j_iushr, j_idiv, j_irem, j_ineg, j_ladd, j_lmul, j_land, j_lor, j_lcmp, j_lushr, j_lshl, j_i2l, j_l2i, j_dupI, j_dupR, j_popI, j_dup2, j_ifeq, j_iceq, j_ifne, j_icne, j_iflt, j_iclt, j_ifge, j_icge, j_ifgt, j_icgt, j_ifle, j_icle, j_goto, j_tsw, j_sw0, j_sw1, j_ireturn, j_zreturn, j_lreturn, j_return, j_getfield, j_putI, j_putJ, j_putR, j_iaload, j_baload, j_iastore, j_bastore, j_aaload, j_q, j_aastore, j_acopy, j_mmin, j_mmax, j_mabs, j_objinit, j_new, j_newI, j_newQ, j_sld, j_slen, j_callV0, j_callI0, j_callS0, j_callV1, j_callI1, j_callS1, j_callV2, j_callI2, j_callS2, j_callV3, j_callS3, j_callV4, j_callS4, j_callV5, j_callS5, j_pushS, j_pushN, j_sh0, j_sh1, j_sh2, j_sh3, j_sh4, Int32.reduceAdd, Int32.reduceMul, Int32.reduceSub, Int32.reduceLT, Int32.reduceLE, eq_self, i32_10, i32_01, ne_eq, hrow_s, hrow_n, ne10, ne100, ne1000, ne7, ne4, ne14, ne9973, or_true, true_or, or_false, false_or, not_true_eq_false, not_false_eq_true, false_implies, implies_true, and_true, forall_const, true_implies, jargs_n, jargs_r, jargs_i, List.cons_append, List.nil_append, true_and, Nat.reduceEqDiff, reduceIte, ft_X5_faultOfCar_0, ft_X5_faultOfCar_1, ft_X5_faultOfCar_2, ft_X5_faultOfCar_3, ft_X5_faultOfCar_4, ft_X5_faultOfCar_5, ft_X5_faultOfCar_7, ft_X5_faultOfCar_10, ft_X5_faultOfCar_13, ft_X5_faultOfCar_14, ft_X5_faultOfCar_15, ft_X5_faultOfCar_16, ft_X5_faultOfCar_17, ft_X5_faultOfCar_18, ft_X5_faultOfCar_19, ft_X5_faultOfCar_20, ft_X5_faultOfCar_21, ft_X5_faultOfCar_22, ft_X5_faultOfCar_23, ft_X5_faultOfCar_24, ft_X5_faultOfCar_25, ft_X5_faultOfCar_28, ft_X5_faultOfCar_31, ft_X5_faultOfCar_32, ft_X5_faultOfCar_35, ft_X5_faultOfCar_36, ft_X5_faultOfCar_38, ft_X5_faultOfCar_41, ft_X5_faultOfCar_44, ft_X5_faultOfCar_45, ft_X5_faultOfCar_46, ft_X5_faultOfCar_47, ft_X5_faultOfCar_48, ft_X5_faultOfCar_49, ft_X5_faultOfCar_50, ft_X5_faultOfCar_51, ft_X5_faultOfCar_52, ft_X5_faultOfCar_53, ft_X5_faultOfCar_55, ft_X5_faultOfCar_58, ft_X5_faultOfCar_61, ft_X5_faultOfCar_62, ft_X5_faultOfCar_63, ft_X5_faultOfCar_64, ft_X5_faultOfCar_65, ft_X5_faultOfCar_66, ft_X5_faultOfCar_67, ft_X5_faultOfCar_68, ft_X5_faultOfCar_69, ft_X5_faultOfCar_70, ft_X5_faultOfCar_72, ft_X5_faultOfCar_75, ft_X5_faultOfCar_78, ft_X5_faultOfCar_79, ft_X5_faultOfCar_80, ft_X5_faultOfCar_81, ft_X5_faultOfCar_82, ft_X5_faultOfCar_83, ft_X5_faultOfCar_84, ft_X5_faultOfCar_85, ft_X5_faultOfCar_86, ft_X5_faultOfCar_87, ft_X5_faultOfCar_88, ft_X5_faultOfCar_91, ft_X5_faultOfCar_94, ft_X5_faultOfCar_96, ft_X5_faultOfCar_99, ft_X5_faultOfCar_100, ft_X5_faultOfCar_101, ft_X5_faultOfCar_102, rc_1, s_X5_digitAt, s_X5_isDigit, zb_0]
  unfold carFaultF
  by_cases h9 : byteF (C 2) (C 1 1) (p + 1) - 48 = 0
  · simp only [h9, pick_t]
    generalize dgF (C 2) (C 1 1) (p + 1) 0 9 = a1
    generalize dgF (C 2) (C 1 1) (p + 2) 1 9 = a2
    generalize dgF (C 2) (C 1 1) (p + 3) 1 9 = a3
    generalize dgF (C 2) (C 1 1) (p + 4) 0 9 = a4
    generalize dgF (C 2) (C 1 1) (p + 5) 0 2 = a5
    by_cases h1 : a1 <;> by_cases h2 : a2 <;> by_cases h3 : a3 <;> by_cases h4 : a4 <;> by_cases h5 : a5 <;> simp [pick, h1, h2, h3, h4, h5]
  · rw [pick_f h9]
    generalize dgF (C 2) (C 1 1) (p + 1) 0 9 = a1
    generalize dgF (C 2) (C 1 1) (p + 2) 0 9 = a2
    generalize dgF (C 2) (C 1 1) (p + 3) 1 9 = a3
    generalize dgF (C 2) (C 1 1) (p + 4) 0 9 = a4
    generalize dgF (C 2) (C 1 1) (p + 5) 0 2 = a5
    by_cases h1 : a1 <;> by_cases h2 : a2 <;> by_cases h3 : a3 <;> by_cases h4 : a4 <;> by_cases h5 : a5 <;> simp [pick, h1, h2, h3, h4, h5, h9]
