/-! the model's site -/
def frR : Nat → Int32 := fun i => if i < 4 then -9 else 0
theorem frR_Cut : Cut frR := fun i hi => by unfold frR; rw [if_neg (by omega)]
def S_X7_fresh : jSp := fun _ vs mem Q => ∃ C z, vs = [.ref 71] ∧ mem = memS 94 C z ∧ Cut (C 78) ∧ Q none (memS 94 (hrow C 78 frR) z)
def F_X7_fresh_0 : Nat → jT := fun pc => (bif Nat.blt pc 5 then (bif Nat.blt pc 2 then (bif Nat.blt pc 1 then (bif Nat.beq pc 0 then J_iconst 0 1 else jbad) else (bif Nat.beq pc 1 then J_istore 1 2 else jbad)) else (bif Nat.blt pc 3 then (bif Nat.beq pc 2 then J_iload 1 3 else jbad) else (bif Nat.beq pc 3 then J_iconst 40 5 else jbad))) else (bif Nat.blt pc 9 then (bif Nat.blt pc 8 then (bif Nat.beq pc 5 then J_icge 31 8 else jbad) else (bif Nat.beq pc 8 then J_aload 0 9 else jbad)) else (bif Nat.blt pc 12 then (bif Nat.beq pc 9 then J_getfield 7 10 12 else jbad) else (bif Nat.blt pc 13 then (bif Nat.beq pc 12 then J_iload 1 13 else jbad) else (bif Nat.beq pc 13 then J_iload 1 14 else jbad)))))
theorem ftl_X7_fresh_0 : F_X7_fresh_0 0 = J_iconst 0 1 := rfl
theorem ftl_X7_fresh_1 : F_X7_fresh_0 1 = J_istore 1 2 := rfl
theorem ftl_X7_fresh_2 : F_X7_fresh_0 2 = J_iload 1 3 := rfl
theorem ftl_X7_fresh_3 : F_X7_fresh_0 3 = J_iconst 40 5 := rfl
theorem ftl_X7_fresh_5 : F_X7_fresh_0 5 = J_icge 31 8 := rfl
theorem ftl_X7_fresh_8 : F_X7_fresh_0 8 = J_aload 0 9 := rfl
theorem ftl_X7_fresh_9 : F_X7_fresh_0 9 = J_getfield 7 10 12 := rfl
theorem ftl_X7_fresh_12 : F_X7_fresh_0 12 = J_iload 1 13 := rfl
theorem ftl_X7_fresh_13 : F_X7_fresh_0 13 = J_iload 1 14 := rfl
theorem F_X7_fresh_0_ok : jOK Y_X7_fresh none (F_X7_fresh_0) := (jOK_node (jOK_node (jOK_node (jOK_leaf (sn_iconst dX7_fresh_0 rfl rfl)) (jOK_leaf (sn_istore_n dX7_fresh_1 rfl rfl (by decide)))) (jOK_node (jOK_leaf (sn_iload_n dX7_fresh_2 rfl rfl)) (jOK_leaf (sn_bipush dX7_fresh_3 rfl rfl)))) (jOK_node (jOK_node (jOK_leaf (sn_icge dX7_fresh_5 rfl rfl)) (jOK_leaf (sn_aload_n dX7_fresh_8 rfl rfl))) (jOK_node (jOK_leaf (sn_getfield dX7_fresh_9 rfl rfl (by decide) tw_624 jin7)) (jOK_node (jOK_leaf (sn_iload_n dX7_fresh_12 rfl rfl)) (jOK_leaf (sn_iload_n dX7_fresh_13 rfl rfl))))))
def F_X7_fresh_14 : Nat → jT := fun pc => (bif Nat.blt pc 23 then (bif Nat.blt pc 18 then (bif Nat.blt pc 15 then (bif Nat.beq pc 14 then J_iconst 4 15 else jbad) else (bif Nat.beq pc 15 then J_icge 23 18 else jbad)) else (bif Nat.blt pc 20 then (bif Nat.beq pc 18 then J_iconst (-9) 20 else jbad) else (bif Nat.beq pc 20 then J_goto 24 else jbad))) else (bif Nat.blt pc 25 then (bif Nat.blt pc 24 then (bif Nat.beq pc 23 then J_iconst 0 24 else jbad) else (bif Nat.beq pc 24 then J_iastore 25 else jbad)) else (bif Nat.blt pc 28 then (bif Nat.beq pc 25 then J_iinc 1 1 28 else jbad) else (bif Nat.blt pc 31 then (bif Nat.beq pc 28 then J_goto 2 else jbad) else (bif Nat.beq pc 31 then J_return 0 0 else jbad)))))
theorem ftl_X7_fresh_14 : F_X7_fresh_14 14 = J_iconst 4 15 := rfl
theorem ftl_X7_fresh_15 : F_X7_fresh_14 15 = J_icge 23 18 := rfl
theorem ftl_X7_fresh_18 : F_X7_fresh_14 18 = J_iconst (-9) 20 := rfl
theorem ftl_X7_fresh_20 : F_X7_fresh_14 20 = J_goto 24 := rfl
theorem ftl_X7_fresh_23 : F_X7_fresh_14 23 = J_iconst 0 24 := rfl
theorem ftl_X7_fresh_24 : F_X7_fresh_14 24 = J_iastore 25 := rfl
theorem ftl_X7_fresh_25 : F_X7_fresh_14 25 = J_iinc 1 1 28 := rfl
theorem ftl_X7_fresh_28 : F_X7_fresh_14 28 = J_goto 2 := rfl
theorem ftl_X7_fresh_31 : F_X7_fresh_14 31 = J_return 0 0 := rfl
theorem F_X7_fresh_14_ok : jOK Y_X7_fresh none (F_X7_fresh_14) := (jOK_node (jOK_node (jOK_node (jOK_leaf (sn_iconst dX7_fresh_14 rfl rfl)) (jOK_leaf (sn_icge dX7_fresh_15 rfl rfl))) (jOK_node (jOK_leaf (sn_bipush dX7_fresh_18 rfl rfl)) (jOK_leaf (sn_goto dX7_fresh_20 rfl)))) (jOK_node (jOK_node (jOK_leaf (sn_iconst dX7_fresh_23 rfl rfl)) (jOK_leaf (sn_iastore dX7_fresh_24 rfl))) (jOK_node (jOK_leaf (sn_iinc dX7_fresh_25 rfl rfl (by decide))) (jOK_node (jOK_leaf (sn_goto dX7_fresh_28 rfl)) (jOK_leaf (sn_return dX7_fresh_31 rfl rfl))))))
def F_X7_fresh_0_31 : Nat → jT := fun pc => bif Nat.blt pc 14 then F_X7_fresh_0 pc else F_X7_fresh_14 pc
theorem F_X7_fresh_0_31_l {pc : Nat} (h : Nat.blt pc 14 = true) : F_X7_fresh_0_31 pc = F_X7_fresh_0 pc := by unfold F_X7_fresh_0_31; rw [h]; rfl
theorem F_X7_fresh_0_31_r {pc : Nat} (h : Nat.blt pc 14 = false) : F_X7_fresh_0_31 pc = F_X7_fresh_14 pc := by unfold F_X7_fresh_0_31; rw [h]; rfl
theorem F_X7_fresh_0_31_ok : jOK Y_X7_fresh none (F_X7_fresh_0_31) := jOK_node (F_X7_fresh_0_ok) (F_X7_fresh_14_ok)
def F_X7_fresh : Nat → jT := F_X7_fresh_0_31
theorem OK_X7_fresh : jOK Y_X7_fresh none (F_X7_fresh) := F_X7_fresh_0_31_ok
theorem ft_X7_fresh_0 : F_X7_fresh 0 = J_iconst 0 1 := (F_X7_fresh_0_31_l rfl).trans (ftl_X7_fresh_0)
theorem ft_X7_fresh_1 : F_X7_fresh 1 = J_istore 1 2 := (F_X7_fresh_0_31_l rfl).trans (ftl_X7_fresh_1)
theorem ft_X7_fresh_2 : F_X7_fresh 2 = J_iload 1 3 := (F_X7_fresh_0_31_l rfl).trans (ftl_X7_fresh_2)
theorem ft_X7_fresh_3 : F_X7_fresh 3 = J_iconst 40 5 := (F_X7_fresh_0_31_l rfl).trans (ftl_X7_fresh_3)
theorem ft_X7_fresh_5 : F_X7_fresh 5 = J_icge 31 8 := (F_X7_fresh_0_31_l rfl).trans (ftl_X7_fresh_5)
theorem ft_X7_fresh_8 : F_X7_fresh 8 = J_aload 0 9 := (F_X7_fresh_0_31_l rfl).trans (ftl_X7_fresh_8)
theorem ft_X7_fresh_9 : F_X7_fresh 9 = J_getfield 7 10 12 := (F_X7_fresh_0_31_l rfl).trans (ftl_X7_fresh_9)
theorem ft_X7_fresh_12 : F_X7_fresh 12 = J_iload 1 13 := (F_X7_fresh_0_31_l rfl).trans (ftl_X7_fresh_12)
theorem ft_X7_fresh_13 : F_X7_fresh 13 = J_iload 1 14 := (F_X7_fresh_0_31_l rfl).trans (ftl_X7_fresh_13)
theorem ft_X7_fresh_14 : F_X7_fresh 14 = J_iconst 4 15 := (F_X7_fresh_0_31_r rfl).trans (ftl_X7_fresh_14)
theorem ft_X7_fresh_15 : F_X7_fresh 15 = J_icge 23 18 := (F_X7_fresh_0_31_r rfl).trans (ftl_X7_fresh_15)
theorem ft_X7_fresh_18 : F_X7_fresh 18 = J_iconst (-9) 20 := (F_X7_fresh_0_31_r rfl).trans (ftl_X7_fresh_18)
theorem ft_X7_fresh_20 : F_X7_fresh 20 = J_goto 24 := (F_X7_fresh_0_31_r rfl).trans (ftl_X7_fresh_20)
theorem ft_X7_fresh_23 : F_X7_fresh 23 = J_iconst 0 24 := (F_X7_fresh_0_31_r rfl).trans (ftl_X7_fresh_23)
theorem ft_X7_fresh_24 : F_X7_fresh 24 = J_iastore 25 := (F_X7_fresh_0_31_r rfl).trans (ftl_X7_fresh_24)
theorem ft_X7_fresh_25 : F_X7_fresh 25 = J_iinc 1 1 28 := (F_X7_fresh_0_31_r rfl).trans (ftl_X7_fresh_25)
theorem ft_X7_fresh_28 : F_X7_fresh 28 = J_goto 2 := (F_X7_fresh_0_31_r rfl).trans (ftl_X7_fresh_28)
theorem ft_X7_fresh_31 : F_X7_fresh 31 = J_return 0 0 := (F_X7_fresh_0_31_r rfl).trans (ftl_X7_fresh_31)
theorem lp_X7_fresh {Q : jQ} {C : Nat → Nat → Int32} {z : Nat → Int64} {nb : Nat} (h : Q none (memS 94 (hrow C 78 frR) z)) :
    ∀ k j, j + k = 40 → ∀ f : Nat → Int32, (∀ i, i < j → f i = frR i) → Cut f → Rn Y_X7_fresh none Q 2 [some (.ref 71), some (.int (nI j))] [] (memS 94 (hrow C 78 f) z) (nb, 0, 0) := by
  intro k
  induction k with
  | zero =>
    intro j hj f hf cf
    have hj : j = 40 := by omega
    subst hj
    have hq : (40 ≤ nI 40) = True := eq_true (by decide)
    refine jrun_first OK_X7_fresh (C := [2]) 60 ?_
    simp -implicitDefEqProofs only [jr_0, jr_1, jr_2, j_iconst, j_lconst, j_iload0, j_aload0, j_istore0, j_astore0, j_iinc0, j_iload1, j_aload1, j_istore1, j_astore1, j_iinc1, j_iload2, j_aload2, j_istore2, j_astore2, j_iinc2, j_iload3, j_aload3, j_istore3, j_astore3, j_iinc3, j_iload4, j_aload4, j_istore4, j_astore4, j_iinc4, j_iload5, j_aload5, j_istore5, j_astore5, j_iinc5, j_iload6, j_aload6, j_istore6, j_astore6, j_iinc6, j_iload7, j_aload7, j_istore7, j_astore7, j_iinc7, j_iload8, j_aload8, j_istore8, j_astore8, j_iinc8, j_iadd, j_isub, j_imul, j_iand, j_ior, j_ixor, j_ishl, j_ishr, j_iushr, j_idiv, j_irem, j_ineg, j_ladd, j_lmul, j_land, j_lor, j_lcmp, j_lushr, j_lshl, j_i2l, j_l2i, j_dupI, j_dupR, j_popI, j_dup2, j_ifeq, j_iceq, j_ifne, j_icne, j_iflt, j_iclt, j_ifge, j_icge, j_ifgt, j_icgt, j_ifle, j_icle, j_goto, j_tsw, j_sw0, j_sw1, j_ireturn, j_zreturn, j_lreturn, j_return, j_getfield, j_putI, j_putJ, j_putR, j_iaload, j_baload, j_iastore, j_bastore, j_aaload, j_q, j_aastore, j_acopy, j_mmin, j_mmax, j_mabs, j_objinit, j_new, j_newI, j_newQ, j_sld, j_slen, j_callV0, j_callI0, j_callS0, j_callV1, j_callI1, j_callS1, j_callV2, j_callI2, j_callS2, j_callV3, j_callS3, j_callV4, j_callS4, j_callV5, j_callS5, j_pushS, j_pushN, j_sh0, j_sh1, j_sh2, j_sh3, j_sh4, Int32.reduceAdd, Int32.reduceMul, Int32.reduceSub, Int32.reduceLT, Int32.reduceLE, eq_self, i32_10, i32_01, ne_eq, hrow_s, hrow_n, ne10, ne100, ne1000, ne7, ne4, ne14, ne9973, or_true, true_or, or_false, false_or, not_true_eq_false, not_false_eq_true, false_implies, implies_true, and_true, forall_const, true_implies, jargs_n, jargs_r, jargs_i, List.cons_append, List.nil_append, true_and, Nat.reduceEqDiff, reduceIte, ft_X7_fresh_0, ft_X7_fresh_1, ft_X7_fresh_2, ft_X7_fresh_3, ft_X7_fresh_5, ft_X7_fresh_8, ft_X7_fresh_9, ft_X7_fresh_12, ft_X7_fresh_13, ft_X7_fresh_14, ft_X7_fresh_15, ft_X7_fresh_18, ft_X7_fresh_20, ft_X7_fresh_23, ft_X7_fresh_24, ft_X7_fresh_25, ft_X7_fresh_28, ft_X7_fresh_31, hq]
    rw [cf.ext frR_Cut hf]
    exact h
  | succ k ih =>
    intro j hj f hf cf
    have hq : (40 ≤ nI j) = False := eq_false (nI_ge (b := 40) (by omega) (by decide))
    have v1 : vp_in (nI j) 40 := vp_in_nI (by omega) (by decide)
    have e4 : (4 ≤ nI j) = (4 ≤ j) := nI_leq (a := 4) (by decide) (by omega)
    have hk := ih (j + 1) (by omega) (upd f j (frR j)) (fun i hi => by
      by_cases q : i = j
      · subst q; rw [upd_eq]
      · rw [upd_ne q]; exact hf i (by omega)) (cf.upd (by omega))
    refine jrun_first OK_X7_fresh (C := [2]) 60 ?_
    by_cases g : 4 ≤ j
    · rw [show frR j = 0 from if_neg (by omega)] at hk
      simp -implicitDefEqProofs only [jr_0, jr_1, jr_2, j_iconst, j_lconst, j_iload0, j_aload0, j_istore0, j_astore0, j_iinc0, j_iload1, j_aload1, j_istore1, j_astore1, j_iinc1, j_iload2, j_aload2, j_istore2, j_astore2, j_iinc2, j_iload3, j_aload3, j_istore3, j_astore3, j_iinc3, j_iload4, j_aload4, j_istore4, j_astore4, j_iinc4, j_iload5, j_aload5, j_istore5, j_astore5, j_iinc5, j_iload6, j_aload6, j_istore6, j_astore6, j_iinc6, j_iload7, j_aload7, j_istore7, j_astore7, j_iinc7, j_iload8, j_aload8, j_istore8, j_astore8, j_iinc8, j_iadd, j_isub, j_imul, j_iand, j_ior, j_ixor, j_ishl, j_ishr, j_iushr, j_idiv, j_irem, j_ineg, j_ladd, j_lmul, j_land, j_lor, j_lcmp, j_lushr, j_lshl, j_i2l, j_l2i, j_dupI, j_dupR, j_popI, j_dup2, j_ifeq, j_iceq, j_ifne, j_icne, j_iflt, j_iclt, j_ifge, j_icge, j_ifgt, j_icgt, j_ifle, j_icle, j_goto, j_tsw, j_sw0, j_sw1, j_ireturn, j_zreturn, j_lreturn, j_return, j_getfield, j_putI, j_putJ, j_putR, j_iaload, j_baload, j_iastore, j_bastore, j_aaload, j_q, j_aastore, j_acopy, j_mmin, j_mmax, j_mabs, j_objinit, j_new, j_newI, j_newQ, j_sld, j_slen, j_callV0, j_callI0, j_callS0, j_callV1, j_callI1, j_callS1, j_callV2, j_callI2, j_callS2, j_callV3, j_callS3, j_callV4, j_callS4, j_callV5, j_callS5, j_pushS, j_pushN, j_sh0, j_sh1, j_sh2, j_sh3, j_sh4, Int32.reduceAdd, Int32.reduceMul, Int32.reduceSub, Int32.reduceLT, Int32.reduceLE, eq_self, i32_10, i32_01, ne_eq, hrow_s, hrow_n, ne10, ne100, ne1000, ne7, ne4, ne14, ne9973, or_true, true_or, or_false, false_or, not_true_eq_false, not_false_eq_true, false_implies, implies_true, and_true, forall_const, true_implies, jargs_n, jargs_r, jargs_i, List.cons_append, List.nil_append, true_and, Nat.reduceEqDiff, reduceIte, ft_X7_fresh_0, ft_X7_fresh_1, ft_X7_fresh_2, ft_X7_fresh_3, ft_X7_fresh_5, ft_X7_fresh_8, ft_X7_fresh_9, ft_X7_fresh_12, ft_X7_fresh_13, ft_X7_fresh_14, ft_X7_fresh_15, ft_X7_fresh_18, ft_X7_fresh_20, ft_X7_fresh_23, ft_X7_fresh_24, ft_X7_fresh_25, ft_X7_fresh_28, ft_X7_fresh_31, hq, fl_71_10, as_78, v1, e4, g, nI_1, hrow_hrow, nI_clamp (show j < 2 ^ 31 by omega)]
      exact hk
    · rw [show frR j = -9 from if_pos (by omega)] at hk
      simp -implicitDefEqProofs only [jr_0, jr_1, jr_2, j_iconst, j_lconst, j_iload0, j_aload0, j_istore0, j_astore0, j_iinc0, j_iload1, j_aload1, j_istore1, j_astore1, j_iinc1, j_iload2, j_aload2, j_istore2, j_astore2, j_iinc2, j_iload3, j_aload3, j_istore3, j_astore3, j_iinc3, j_iload4, j_aload4, j_istore4, j_astore4, j_iinc4, j_iload5, j_aload5, j_istore5, j_astore5, j_iinc5, j_iload6, j_aload6, j_istore6, j_astore6, j_iinc6, j_iload7, j_aload7, j_istore7, j_astore7, j_iinc7, j_iload8, j_aload8, j_istore8, j_astore8, j_iinc8, j_iadd, j_isub, j_imul, j_iand, j_ior, j_ixor, j_ishl, j_ishr, j_iushr, j_idiv, j_irem, j_ineg, j_ladd, j_lmul, j_land, j_lor, j_lcmp, j_lushr, j_lshl, j_i2l, j_l2i, j_dupI, j_dupR, j_popI, j_dup2, j_ifeq, j_iceq, j_ifne, j_icne, j_iflt, j_iclt, j_ifge, j_icge, j_ifgt, j_icgt, j_ifle, j_icle, j_goto, j_tsw, j_sw0, j_sw1, j_ireturn, j_zreturn, j_lreturn, j_return, j_getfield, j_putI, j_putJ, j_putR, j_iaload, j_baload, j_iastore, j_bastore, j_aaload, j_q, j_aastore, j_acopy, j_mmin, j_mmax, j_mabs, j_objinit, j_new, j_newI, j_newQ, j_sld, j_slen, j_callV0, j_callI0, j_callS0, j_callV1, j_callI1, j_callS1, j_callV2, j_callI2, j_callS2, j_callV3, j_callS3, j_callV4, j_callS4, j_callV5, j_callS5, j_pushS, j_pushN, j_sh0, j_sh1, j_sh2, j_sh3, j_sh4, Int32.reduceAdd, Int32.reduceMul, Int32.reduceSub, Int32.reduceLT, Int32.reduceLE, eq_self, i32_10, i32_01, ne_eq, hrow_s, hrow_n, ne10, ne100, ne1000, ne7, ne4, ne14, ne9973, or_true, true_or, or_false, false_or, not_true_eq_false, not_false_eq_true, false_implies, implies_true, and_true, forall_const, true_implies, jargs_n, jargs_r, jargs_i, List.cons_append, List.nil_append, true_and, Nat.reduceEqDiff, reduceIte, ft_X7_fresh_0, ft_X7_fresh_1, ft_X7_fresh_2, ft_X7_fresh_3, ft_X7_fresh_5, ft_X7_fresh_8, ft_X7_fresh_9, ft_X7_fresh_12, ft_X7_fresh_13, ft_X7_fresh_14, ft_X7_fresh_15, ft_X7_fresh_18, ft_X7_fresh_20, ft_X7_fresh_23, ft_X7_fresh_24, ft_X7_fresh_25, ft_X7_fresh_28, ft_X7_fresh_31, hq, fl_71_10, as_78, v1, e4, g, nI_1, hrow_hrow, nI_clamp (show j < 2 ^ 31 by omega)]
      exact hk
theorem ok_X7_fresh : jMeets Y_X7_fresh S_X7_fresh := by
  intro nb vs mem Q h
  obtain ⟨C, z, rfl, rfl, c, hQ⟩ := h
  refine Ok.run OK_X7_fresh [2] 40 [none] pn7 (Nat.le_of_ble_eq_true rfl) rfl ?_
  simp -implicitDefEqProofs only [jr_0, jr_1, jr_2, j_iconst, j_lconst, j_iload0, j_aload0, j_istore0, j_astore0, j_iinc0, j_iload1, j_aload1, j_istore1, j_astore1, j_iinc1, j_iload2, j_aload2, j_istore2, j_astore2, j_iinc2, j_iload3, j_aload3, j_istore3, j_astore3, j_iinc3, j_iload4, j_aload4, j_istore4, j_astore4, j_iinc4, j_iload5, j_aload5, j_istore5, j_astore5, j_iinc5, j_iload6, j_aload6, j_istore6, j_astore6, j_iinc6, j_iload7, j_aload7, j_istore7, j_astore7, j_iinc7, j_iload8, j_aload8, j_istore8, j_astore8, j_iinc8, j_iadd, j_isub, j_imul, j_iand, j_ior, j_ixor, j_ishl, j_ishr, j_iushr, j_idiv, j_irem, j_ineg, j_ladd, j_lmul, j_land, j_lor, j_lcmp, j_lushr, j_lshl, j_i2l, j_l2i, j_dupI, j_dupR, j_popI, j_dup2, j_ifeq, j_iceq, j_ifne, j_icne, j_iflt, j_iclt, j_ifge, j_icge, j_ifgt, j_icgt, j_ifle, j_icle, j_goto, j_tsw, j_sw0, j_sw1, j_ireturn, j_zreturn, j_lreturn, j_return, j_getfield, j_putI, j_putJ, j_putR, j_iaload, j_baload, j_iastore, j_bastore, j_aaload, j_q, j_aastore, j_acopy, j_mmin, j_mmax, j_mabs, j_objinit, j_new, j_newI, j_newQ, j_sld, j_slen, j_callV0, j_callI0, j_callS0, j_callV1, j_callI1, j_callS1, j_callV2, j_callI2, j_callS2, j_callV3, j_callS3, j_callV4, j_callS4, j_callV5, j_callS5, j_pushS, j_pushN, j_sh0, j_sh1, j_sh2, j_sh3, j_sh4, Int32.reduceAdd, Int32.reduceMul, Int32.reduceSub, Int32.reduceLT, Int32.reduceLE, eq_self, i32_10, i32_01, ne_eq, hrow_s, hrow_n, ne10, ne100, ne1000, ne7, ne4, ne14, ne9973, or_true, true_or, or_false, false_or, not_true_eq_false, not_false_eq_true, false_implies, implies_true, and_true, forall_const, true_implies, jargs_n, jargs_r, jargs_i, List.cons_append, List.nil_append, true_and, Nat.reduceEqDiff, reduceIte, ft_X7_fresh_0, ft_X7_fresh_1, ft_X7_fresh_2, ft_X7_fresh_3, ft_X7_fresh_5, ft_X7_fresh_8, ft_X7_fresh_9, ft_X7_fresh_12, ft_X7_fresh_13, ft_X7_fresh_14, ft_X7_fresh_15, ft_X7_fresh_18, ft_X7_fresh_20, ft_X7_fresh_23, ft_X7_fresh_24, ft_X7_fresh_25, ft_X7_fresh_28, ft_X7_fresh_31]
  have := lp_X7_fresh (nb := nb) (z := z) hQ 40 0 (by omega) (C 78) (fun i hi => absurd hi (Nat.not_lt_zero i)) c
  rw [hrow_self] at this
  exact this
theorem s_X7_fresh {nb : Nat} {C : Nat → Nat → Int32} {z : Nat → Int64} {Q : jQ} (c : Cut (C 78)) (hQ : Q none (memS 94 (hrow C 78 frR) z)) : S_X7_fresh nb [.ref 71] (memS 94 C z) Q := ⟨C, z, rfl, rfl, c, hQ⟩
def siR (s : jBd) (li : Int32) : Nat → Int32 := fun i => if i < 4 then -9 else if 32 ≤ i ∧ i < 32 + s.1.2 then s.2.2 (4 * (i - 32)) else if i = 38 then li else 0
def vM (a : Nat) : Bool := vN a || (a == 73 || (a == 74 || (a == 75 || (a == 76 || (a == 77 || (a == 78 || a == 82))))))
def MSite (C C' : Nat → Nat → Int32) (s : jBd) (li pa : Int32) : Prop := ((∀ a, vM a = false → C' a = C a) ∧ (∀ i, vF i = false → i ≠ 2 → i ≠ 4 → i ≠ 9 → i ≠ 13 → C' 71 i = C 71 i) ∧ Cut (C' 12) ∧ Cut (C' 79)) ∧ (C' 71 2 = nI s.1.1 ∧ C' 71 4 = nI s.1.2 ∧ C' 71 9 = pa ∧ C' 71 13 = 0) ∧ (C' 82 0 = 0 ∧ C' 82 1 = 0) ∧ (∀ p, C' 73 p = if p < s.1.1 then s.2.1 p else C 73 p) ∧ (∀ c, C' 74 c = (if c < s.1.2 then s.2.2 (4 * c) else C 74 c) ∧ C' 75 c = (if c < s.1.2 then s.2.2 (4 * c + 1) else C 75 c) ∧ C' 76 c = (if c < s.1.2 then s.2.2 (4 * c + 2) else C 76 c) ∧ C' 77 c = (if c < s.1.2 then s.2.2 (4 * c + 3) else C 77 c)) ∧ ∀ i, C' 78 i = siR s li i
def S_X7_site : jSp := fun _ vs mem Q => ∃ C z n, ∃ A0 T0 : Nat → Int32, vs = [.ref 71] ∧ mem = memS 94 C z ∧ TX C n ∧ (Cut (C 12) ∧ Cut (C 79) ∧ Cut (C 78)) ∧ (¬ faultA (C 2) n = -9 → ∀ C', Ev C C' → Q (some (.int (-3))) (memS 94 C' z)) ∧ (faultA (C 2) n = -9 → SOk A0 T0 (bdF (C 2) n 10 4 ((0, 0), A0, T0)) → (∃ v, v ≤ 99 ∧ 10 * dF (C 2) n 1 + dF (C 2) n 2 = nI v) → ∀ C', MSite C C' (bdF (C 2) n 10 4 ((0, 0), A0, T0)) (10 * dF (C 2) n 1 + dF (C 2) n 2) (dF (C 2) n 3) → Q (some (.int (nI (bdF (C 2) n 10 4 ((0, 0), A0, T0)).1.1))) (memS 94 C' z))
def F_X7_site_0 : Nat → jT := fun pc => (bif Nat.blt pc 12 then (bif Nat.blt pc 6 then (bif Nat.blt pc 1 then (bif Nat.beq pc 0 then J_aload 0 1 else jbad) else (bif Nat.blt pc 4 then (bif Nat.beq pc 1 then J_callV 7 S_X7_readText 0 4 else jbad) else (bif Nat.beq pc 4 then J_iconst (-9) 6 else jbad))) else (bif Nat.blt pc 9 then (bif Nat.beq pc 6 then J_iceq 12 9 else jbad) else (bif Nat.blt pc 11 then (bif Nat.beq pc 9 then J_iconst (-3) 11 else jbad) else (bif Nat.beq pc 11 then J_ireturn 0 0 else jbad)))) else (bif Nat.blt pc 17 then (bif Nat.blt pc 13 then (bif Nat.beq pc 12 then J_aload 0 13 else jbad) else (bif Nat.blt pc 16 then (bif Nat.beq pc 13 then J_callV 7 S_X7_fresh 0 16 else jbad) else (bif Nat.beq pc 16 then J_aload 0 17 else jbad))) else (bif Nat.blt pc 21 then (bif Nat.blt pc 18 then (bif Nat.beq pc 17 then J_aload 0 18 else jbad) else (bif Nat.beq pc 18 then J_getfield 7 30 21 else jbad)) else (bif Nat.blt pc 24 then (bif Nat.beq pc 21 then J_putI 7 2 24 else jbad) else (bif Nat.beq pc 24 then J_aload 0 25 else jbad)))))
theorem ftl_X7_site_0 : F_X7_site_0 0 = J_aload 0 1 := rfl
theorem ftl_X7_site_1 : F_X7_site_0 1 = J_callV 7 S_X7_readText 0 4 := rfl
theorem ftl_X7_site_4 : F_X7_site_0 4 = J_iconst (-9) 6 := rfl
theorem ftl_X7_site_6 : F_X7_site_0 6 = J_iceq 12 9 := rfl
theorem ftl_X7_site_9 : F_X7_site_0 9 = J_iconst (-3) 11 := rfl
theorem ftl_X7_site_11 : F_X7_site_0 11 = J_ireturn 0 0 := rfl
theorem ftl_X7_site_12 : F_X7_site_0 12 = J_aload 0 13 := rfl
theorem ftl_X7_site_13 : F_X7_site_0 13 = J_callV 7 S_X7_fresh 0 16 := rfl
theorem ftl_X7_site_16 : F_X7_site_0 16 = J_aload 0 17 := rfl
theorem ftl_X7_site_17 : F_X7_site_0 17 = J_aload 0 18 := rfl
theorem ftl_X7_site_18 : F_X7_site_0 18 = J_getfield 7 30 21 := rfl
theorem ftl_X7_site_21 : F_X7_site_0 21 = J_putI 7 2 24 := rfl
theorem ftl_X7_site_24 : F_X7_site_0 24 = J_aload 0 25 := rfl
theorem F_X7_site_0_ok : jOK Y_X7_site none (F_X7_site_0) := (jOK_node (jOK_node (jOK_node (jOK_leaf (sn_aload_n dX7_site_0 rfl rfl)) (jOK_node (jOK_leaf (sn_callV (Y' := Y_X7_readText) ok_X7_readText dX7_site_1 rfl rfl rfl tw_748 tw_750 tp_26 tw_8 jc_X7_readText rfl ⟨by decide, by decide, rfl⟩ ⟨by decide, by decide⟩)) (jOK_leaf (sn_bipush dX7_site_4 rfl rfl)))) (jOK_node (jOK_leaf (sn_iceq dX7_site_6 rfl rfl)) (jOK_node (jOK_leaf (sn_bipush dX7_site_9 rfl rfl)) (jOK_leaf (sn_ireturn dX7_site_11 rfl rfl))))) (jOK_node (jOK_node (jOK_leaf (sn_aload_n dX7_site_12 rfl rfl)) (jOK_node (jOK_leaf (sn_callV (Y' := Y_X7_fresh) ok_X7_fresh dX7_site_13 rfl rfl rfl tw_610 tw_612 tp_25 tw_8 jc_X7_fresh rfl ⟨by decide, by decide, rfl⟩ ⟨by decide, by decide⟩)) (jOK_leaf (sn_aload_n dX7_site_16 rfl rfl)))) (jOK_node (jOK_node (jOK_leaf (sn_aload_n dX7_site_17 rfl rfl)) (jOK_leaf (sn_getfield dX7_site_18 rfl rfl (by decide) tw_644 jin7))) (jOK_node (jOK_leaf (sn_putI tyX7 dX7_site_21 rfl rfl (by decide) tw_616 jin7 tyX7_ok nmX7 rfl rfl)) (jOK_leaf (sn_aload_n dX7_site_24 rfl rfl))))))
def F_X7_site_25 : Nat → jT := fun pc => (bif Nat.blt pc 40 then (bif Nat.blt pc 32 then (bif Nat.blt pc 26 then (bif Nat.beq pc 25 then J_aload 0 26 else jbad) else (bif Nat.blt pc 29 then (bif Nat.beq pc 26 then J_getfield 7 32 29 else jbad) else (bif Nat.beq pc 29 then J_putI 7 4 32 else jbad))) else (bif Nat.blt pc 34 then (bif Nat.blt pc 33 then (bif Nat.beq pc 32 then J_aload 0 33 else jbad) else (bif Nat.beq pc 33 then J_aload 0 34 else jbad)) else (bif Nat.blt pc 37 then (bif Nat.beq pc 34 then J_getfield 7 29 37 else jbad) else (bif Nat.beq pc 37 then J_putI 7 9 40 else jbad)))) else (bif Nat.blt pc 46 then (bif Nat.blt pc 41 then (bif Nat.beq pc 40 then J_aload 0 41 else jbad) else (bif Nat.blt pc 44 then (bif Nat.beq pc 41 then J_getfield 7 10 44 else jbad) else (bif Nat.beq pc 44 then J_iconst 38 46 else jbad))) else (bif Nat.blt pc 50 then (bif Nat.blt pc 47 then (bif Nat.beq pc 46 then J_aload 0 47 else jbad) else (bif Nat.beq pc 47 then J_getfield 7 28 50 else jbad)) else (bif Nat.blt pc 51 then (bif Nat.beq pc 50 then J_iastore 51 else jbad) else (bif Nat.beq pc 51 then J_iconst 0 52 else jbad)))))
theorem ftl_X7_site_25 : F_X7_site_25 25 = J_aload 0 26 := rfl
theorem ftl_X7_site_26 : F_X7_site_25 26 = J_getfield 7 32 29 := rfl
theorem ftl_X7_site_29 : F_X7_site_25 29 = J_putI 7 4 32 := rfl
theorem ftl_X7_site_32 : F_X7_site_25 32 = J_aload 0 33 := rfl
theorem ftl_X7_site_33 : F_X7_site_25 33 = J_aload 0 34 := rfl
theorem ftl_X7_site_34 : F_X7_site_25 34 = J_getfield 7 29 37 := rfl
theorem ftl_X7_site_37 : F_X7_site_25 37 = J_putI 7 9 40 := rfl
theorem ftl_X7_site_40 : F_X7_site_25 40 = J_aload 0 41 := rfl
theorem ftl_X7_site_41 : F_X7_site_25 41 = J_getfield 7 10 44 := rfl
theorem ftl_X7_site_44 : F_X7_site_25 44 = J_iconst 38 46 := rfl
theorem ftl_X7_site_46 : F_X7_site_25 46 = J_aload 0 47 := rfl
theorem ftl_X7_site_47 : F_X7_site_25 47 = J_getfield 7 28 50 := rfl
theorem ftl_X7_site_50 : F_X7_site_25 50 = J_iastore 51 := rfl
theorem ftl_X7_site_51 : F_X7_site_25 51 = J_iconst 0 52 := rfl
theorem F_X7_site_25_ok : jOK Y_X7_site none (F_X7_site_25) := (jOK_node (jOK_node (jOK_node (jOK_leaf (sn_aload_n dX7_site_25 rfl rfl)) (jOK_node (jOK_leaf (sn_getfield dX7_site_26 rfl rfl (by decide) tw_646 jin7)) (jOK_leaf (sn_putI tyX7 dX7_site_29 rfl rfl (by decide) tw_618 jin7 tyX7_ok nmX7 rfl rfl)))) (jOK_node (jOK_node (jOK_leaf (sn_aload_n dX7_site_32 rfl rfl)) (jOK_leaf (sn_aload_n dX7_site_33 rfl rfl))) (jOK_node (jOK_leaf (sn_getfield dX7_site_34 rfl rfl (by decide) tw_643 jin7)) (jOK_leaf (sn_putI tyX7 dX7_site_37 rfl rfl (by decide) tw_623 jin7 tyX7_ok nmX7 rfl rfl))))) (jOK_node (jOK_node (jOK_leaf (sn_aload_n dX7_site_40 rfl rfl)) (jOK_node (jOK_leaf (sn_getfield dX7_site_41 rfl rfl (by decide) tw_624 jin7)) (jOK_leaf (sn_bipush dX7_site_44 rfl rfl)))) (jOK_node (jOK_node (jOK_leaf (sn_aload_n dX7_site_46 rfl rfl)) (jOK_leaf (sn_getfield dX7_site_47 rfl rfl (by decide) tw_642 jin7))) (jOK_node (jOK_leaf (sn_iastore dX7_site_50 rfl)) (jOK_leaf (sn_iconst dX7_site_51 rfl rfl))))))
def F_X7_site_0_51 : Nat → jT := fun pc => bif Nat.blt pc 25 then F_X7_site_0 pc else F_X7_site_25 pc
theorem F_X7_site_0_51_l {pc : Nat} (h : Nat.blt pc 25 = true) : F_X7_site_0_51 pc = F_X7_site_0 pc := by unfold F_X7_site_0_51; rw [h]; rfl
theorem F_X7_site_0_51_r {pc : Nat} (h : Nat.blt pc 25 = false) : F_X7_site_0_51 pc = F_X7_site_25 pc := by unfold F_X7_site_0_51; rw [h]; rfl
theorem F_X7_site_0_51_ok : jOK Y_X7_site none (F_X7_site_0_51) := jOK_node (F_X7_site_0_ok) (F_X7_site_25_ok)
def F_X7_site_52 : Nat → jT := fun pc => (bif Nat.blt pc 62 then (bif Nat.blt pc 55 then (bif Nat.blt pc 53 then (bif Nat.beq pc 52 then J_istore 1 53 else jbad) else (bif Nat.blt pc 54 then (bif Nat.beq pc 53 then J_iload 1 54 else jbad) else (bif Nat.beq pc 54 then J_aload 0 55 else jbad))) else (bif Nat.blt pc 58 then (bif Nat.beq pc 55 then J_getfield 7 2 58 else jbad) else (bif Nat.blt pc 61 then (bif Nat.beq pc 58 then J_icge 79 61 else jbad) else (bif Nat.beq pc 61 then J_aload 0 62 else jbad)))) else (bif Nat.blt pc 67 then (bif Nat.blt pc 65 then (bif Nat.beq pc 62 then J_getfield 7 3 65 else jbad) else (bif Nat.blt pc 66 then (bif Nat.beq pc 65 then J_iload 1 66 else jbad) else (bif Nat.beq pc 66 then J_aload 0 67 else jbad))) else (bif Nat.blt pc 71 then (bif Nat.blt pc 70 then (bif Nat.beq pc 67 then J_getfield 7 31 70 else jbad) else (bif Nat.beq pc 70 then J_iload 1 71 else jbad)) else (bif Nat.blt pc 72 then (bif Nat.beq pc 71 then J_iaload 72 else jbad) else (bif Nat.beq pc 72 then J_iastore 73 else jbad)))))
theorem ftl_X7_site_52 : F_X7_site_52 52 = J_istore 1 53 := rfl
theorem ftl_X7_site_53 : F_X7_site_52 53 = J_iload 1 54 := rfl
theorem ftl_X7_site_54 : F_X7_site_52 54 = J_aload 0 55 := rfl
theorem ftl_X7_site_55 : F_X7_site_52 55 = J_getfield 7 2 58 := rfl
theorem ftl_X7_site_58 : F_X7_site_52 58 = J_icge 79 61 := rfl
theorem ftl_X7_site_61 : F_X7_site_52 61 = J_aload 0 62 := rfl
theorem ftl_X7_site_62 : F_X7_site_52 62 = J_getfield 7 3 65 := rfl
theorem ftl_X7_site_65 : F_X7_site_52 65 = J_iload 1 66 := rfl
theorem ftl_X7_site_66 : F_X7_site_52 66 = J_aload 0 67 := rfl
theorem ftl_X7_site_67 : F_X7_site_52 67 = J_getfield 7 31 70 := rfl
theorem ftl_X7_site_70 : F_X7_site_52 70 = J_iload 1 71 := rfl
theorem ftl_X7_site_71 : F_X7_site_52 71 = J_iaload 72 := rfl
theorem ftl_X7_site_72 : F_X7_site_52 72 = J_iastore 73 := rfl
theorem F_X7_site_52_ok : jOK Y_X7_site none (F_X7_site_52) := (jOK_node (jOK_node (jOK_node (jOK_leaf (sn_istore_n dX7_site_52 rfl rfl (by decide))) (jOK_node (jOK_leaf (sn_iload_n dX7_site_53 rfl rfl)) (jOK_leaf (sn_aload_n dX7_site_54 rfl rfl)))) (jOK_node (jOK_leaf (sn_getfield dX7_site_55 rfl rfl (by decide) tw_616 jin7)) (jOK_node (jOK_leaf (sn_icge dX7_site_58 rfl rfl)) (jOK_leaf (sn_aload_n dX7_site_61 rfl rfl))))) (jOK_node (jOK_node (jOK_leaf (sn_getfield dX7_site_62 rfl rfl (by decide) tw_617 jin7)) (jOK_node (jOK_leaf (sn_iload_n dX7_site_65 rfl rfl)) (jOK_leaf (sn_aload_n dX7_site_66 rfl rfl)))) (jOK_node (jOK_node (jOK_leaf (sn_getfield dX7_site_67 rfl rfl (by decide) tw_645 jin7)) (jOK_leaf (sn_iload_n dX7_site_70 rfl rfl))) (jOK_node (jOK_leaf (sn_iaload dX7_site_71 rfl)) (jOK_leaf (sn_iastore dX7_site_72 rfl))))))
def F_X7_site_73 : Nat → jT := fun pc => (bif Nat.blt pc 86 then (bif Nat.blt pc 80 then (bif Nat.blt pc 76 then (bif Nat.beq pc 73 then J_iinc 1 1 76 else jbad) else (bif Nat.blt pc 79 then (bif Nat.beq pc 76 then J_goto 53 else jbad) else (bif Nat.beq pc 79 then J_iconst 0 80 else jbad))) else (bif Nat.blt pc 82 then (bif Nat.blt pc 81 then (bif Nat.beq pc 80 then J_istore 1 81 else jbad) else (bif Nat.beq pc 81 then J_iload 1 82 else jbad)) else (bif Nat.blt pc 83 then (bif Nat.beq pc 82 then J_aload 0 83 else jbad) else (bif Nat.beq pc 83 then J_getfield 7 4 86 else jbad)))) else (bif Nat.blt pc 93 then (bif Nat.blt pc 89 then (bif Nat.beq pc 86 then J_icge 158 89 else jbad) else (bif Nat.blt pc 90 then (bif Nat.beq pc 89 then J_aload 0 90 else jbad) else (bif Nat.beq pc 90 then J_getfield 7 5 93 else jbad))) else (bif Nat.blt pc 95 then (bif Nat.blt pc 94 then (bif Nat.beq pc 93 then J_iload 1 94 else jbad) else (bif Nat.beq pc 94 then J_aload 0 95 else jbad)) else (bif Nat.blt pc 98 then (bif Nat.beq pc 95 then J_getfield 7 33 98 else jbad) else (bif Nat.beq pc 98 then J_iload 1 99 else jbad)))))
theorem ftl_X7_site_73 : F_X7_site_73 73 = J_iinc 1 1 76 := rfl
theorem ftl_X7_site_76 : F_X7_site_73 76 = J_goto 53 := rfl
theorem ftl_X7_site_79 : F_X7_site_73 79 = J_iconst 0 80 := rfl
theorem ftl_X7_site_80 : F_X7_site_73 80 = J_istore 1 81 := rfl
theorem ftl_X7_site_81 : F_X7_site_73 81 = J_iload 1 82 := rfl
theorem ftl_X7_site_82 : F_X7_site_73 82 = J_aload 0 83 := rfl
theorem ftl_X7_site_83 : F_X7_site_73 83 = J_getfield 7 4 86 := rfl
theorem ftl_X7_site_86 : F_X7_site_73 86 = J_icge 158 89 := rfl
theorem ftl_X7_site_89 : F_X7_site_73 89 = J_aload 0 90 := rfl
theorem ftl_X7_site_90 : F_X7_site_73 90 = J_getfield 7 5 93 := rfl
theorem ftl_X7_site_93 : F_X7_site_73 93 = J_iload 1 94 := rfl
theorem ftl_X7_site_94 : F_X7_site_73 94 = J_aload 0 95 := rfl
theorem ftl_X7_site_95 : F_X7_site_73 95 = J_getfield 7 33 98 := rfl
theorem ftl_X7_site_98 : F_X7_site_73 98 = J_iload 1 99 := rfl
theorem F_X7_site_73_ok : jOK Y_X7_site none (F_X7_site_73) := (jOK_node (jOK_node (jOK_node (jOK_leaf (sn_iinc dX7_site_73 rfl rfl (by decide))) (jOK_node (jOK_leaf (sn_goto dX7_site_76 rfl)) (jOK_leaf (sn_iconst dX7_site_79 rfl rfl)))) (jOK_node (jOK_node (jOK_leaf (sn_istore_n dX7_site_80 rfl rfl (by decide))) (jOK_leaf (sn_iload_n dX7_site_81 rfl rfl))) (jOK_node (jOK_leaf (sn_aload_n dX7_site_82 rfl rfl)) (jOK_leaf (sn_getfield dX7_site_83 rfl rfl (by decide) tw_618 jin7))))) (jOK_node (jOK_node (jOK_leaf (sn_icge dX7_site_86 rfl rfl)) (jOK_node (jOK_leaf (sn_aload_n dX7_site_89 rfl rfl)) (jOK_leaf (sn_getfield dX7_site_90 rfl rfl (by decide) tw_619 jin7)))) (jOK_node (jOK_node (jOK_leaf (sn_iload_n dX7_site_93 rfl rfl)) (jOK_leaf (sn_aload_n dX7_site_94 rfl rfl))) (jOK_node (jOK_leaf (sn_getfield dX7_site_95 rfl rfl (by decide) tw_647 jin7)) (jOK_leaf (sn_iload_n dX7_site_98 rfl rfl))))))
def F_X7_site_52_98 : Nat → jT := fun pc => bif Nat.blt pc 73 then F_X7_site_52 pc else F_X7_site_73 pc
theorem F_X7_site_52_98_l {pc : Nat} (h : Nat.blt pc 73 = true) : F_X7_site_52_98 pc = F_X7_site_52 pc := by unfold F_X7_site_52_98; rw [h]; rfl
theorem F_X7_site_52_98_r {pc : Nat} (h : Nat.blt pc 73 = false) : F_X7_site_52_98 pc = F_X7_site_73 pc := by unfold F_X7_site_52_98; rw [h]; rfl
theorem F_X7_site_52_98_ok : jOK Y_X7_site none (F_X7_site_52_98) := jOK_node (F_X7_site_52_ok) (F_X7_site_73_ok)
def F_X7_site_0_98 : Nat → jT := fun pc => bif Nat.blt pc 52 then F_X7_site_0_51 pc else F_X7_site_52_98 pc
theorem F_X7_site_0_98_l {pc : Nat} (h : Nat.blt pc 52 = true) : F_X7_site_0_98 pc = F_X7_site_0_51 pc := by unfold F_X7_site_0_98; rw [h]; rfl
theorem F_X7_site_0_98_r {pc : Nat} (h : Nat.blt pc 52 = false) : F_X7_site_0_98 pc = F_X7_site_52_98 pc := by unfold F_X7_site_0_98; rw [h]; rfl
theorem F_X7_site_0_98_ok : jOK Y_X7_site none (F_X7_site_0_98) := jOK_node (F_X7_site_0_51_ok) (F_X7_site_52_98_ok)
def F_X7_site_99 : Nat → jT := fun pc => (bif Nat.blt pc 107 then (bif Nat.blt pc 102 then (bif Nat.blt pc 100 then (bif Nat.beq pc 99 then J_iaload 100 else jbad) else (bif Nat.blt pc 101 then (bif Nat.beq pc 100 then J_iastore 101 else jbad) else (bif Nat.beq pc 101 then J_aload 0 102 else jbad))) else (bif Nat.blt pc 105 then (bif Nat.beq pc 102 then J_getfield 7 6 105 else jbad) else (bif Nat.blt pc 106 then (bif Nat.beq pc 105 then J_iload 1 106 else jbad) else (bif Nat.beq pc 106 then J_aload 0 107 else jbad)))) else (bif Nat.blt pc 112 then (bif Nat.blt pc 110 then (bif Nat.beq pc 107 then J_getfield 7 34 110 else jbad) else (bif Nat.blt pc 111 then (bif Nat.beq pc 110 then J_iload 1 111 else jbad) else (bif Nat.beq pc 111 then J_iaload 112 else jbad))) else (bif Nat.blt pc 114 then (bif Nat.blt pc 113 then (bif Nat.beq pc 112 then J_iastore 113 else jbad) else (bif Nat.beq pc 113 then J_aload 0 114 else jbad)) else (bif Nat.blt pc 117 then (bif Nat.beq pc 114 then J_getfield 7 7 117 else jbad) else (bif Nat.beq pc 117 then J_iload 1 118 else jbad)))))
theorem ftl_X7_site_99 : F_X7_site_99 99 = J_iaload 100 := rfl
theorem ftl_X7_site_100 : F_X7_site_99 100 = J_iastore 101 := rfl
theorem ftl_X7_site_101 : F_X7_site_99 101 = J_aload 0 102 := rfl
theorem ftl_X7_site_102 : F_X7_site_99 102 = J_getfield 7 6 105 := rfl
theorem ftl_X7_site_105 : F_X7_site_99 105 = J_iload 1 106 := rfl
theorem ftl_X7_site_106 : F_X7_site_99 106 = J_aload 0 107 := rfl
theorem ftl_X7_site_107 : F_X7_site_99 107 = J_getfield 7 34 110 := rfl
theorem ftl_X7_site_110 : F_X7_site_99 110 = J_iload 1 111 := rfl
theorem ftl_X7_site_111 : F_X7_site_99 111 = J_iaload 112 := rfl
theorem ftl_X7_site_112 : F_X7_site_99 112 = J_iastore 113 := rfl
theorem ftl_X7_site_113 : F_X7_site_99 113 = J_aload 0 114 := rfl
theorem ftl_X7_site_114 : F_X7_site_99 114 = J_getfield 7 7 117 := rfl
theorem ftl_X7_site_117 : F_X7_site_99 117 = J_iload 1 118 := rfl
theorem F_X7_site_99_ok : jOK Y_X7_site none (F_X7_site_99) := (jOK_node (jOK_node (jOK_node (jOK_leaf (sn_iaload dX7_site_99 rfl)) (jOK_node (jOK_leaf (sn_iastore dX7_site_100 rfl)) (jOK_leaf (sn_aload_n dX7_site_101 rfl rfl)))) (jOK_node (jOK_leaf (sn_getfield dX7_site_102 rfl rfl (by decide) tw_620 jin7)) (jOK_node (jOK_leaf (sn_iload_n dX7_site_105 rfl rfl)) (jOK_leaf (sn_aload_n dX7_site_106 rfl rfl))))) (jOK_node (jOK_node (jOK_leaf (sn_getfield dX7_site_107 rfl rfl (by decide) tw_648 jin7)) (jOK_node (jOK_leaf (sn_iload_n dX7_site_110 rfl rfl)) (jOK_leaf (sn_iaload dX7_site_111 rfl)))) (jOK_node (jOK_node (jOK_leaf (sn_iastore dX7_site_112 rfl)) (jOK_leaf (sn_aload_n dX7_site_113 rfl rfl))) (jOK_node (jOK_leaf (sn_getfield dX7_site_114 rfl rfl (by decide) tw_621 jin7)) (jOK_leaf (sn_iload_n dX7_site_117 rfl rfl))))))
def F_X7_site_118 : Nat → jT := fun pc => (bif Nat.blt pc 129 then (bif Nat.blt pc 123 then (bif Nat.blt pc 119 then (bif Nat.beq pc 118 then J_aload 0 119 else jbad) else (bif Nat.blt pc 122 then (bif Nat.beq pc 119 then J_getfield 7 35 122 else jbad) else (bif Nat.beq pc 122 then J_iload 1 123 else jbad))) else (bif Nat.blt pc 125 then (bif Nat.blt pc 124 then (bif Nat.beq pc 123 then J_iaload 124 else jbad) else (bif Nat.beq pc 124 then J_iastore 125 else jbad)) else (bif Nat.blt pc 126 then (bif Nat.beq pc 125 then J_aload 0 126 else jbad) else (bif Nat.beq pc 126 then J_getfield 7 8 129 else jbad)))) else (bif Nat.blt pc 134 then (bif Nat.blt pc 130 then (bif Nat.beq pc 129 then J_iload 1 130 else jbad) else (bif Nat.blt pc 131 then (bif Nat.beq pc 130 then J_aload 0 131 else jbad) else (bif Nat.beq pc 131 then J_getfield 7 36 134 else jbad))) else (bif Nat.blt pc 136 then (bif Nat.blt pc 135 then (bif Nat.beq pc 134 then J_iload 1 135 else jbad) else (bif Nat.beq pc 135 then J_iaload 136 else jbad)) else (bif Nat.blt pc 137 then (bif Nat.beq pc 136 then J_iastore 137 else jbad) else (bif Nat.beq pc 137 then J_aload 0 138 else jbad)))))
theorem ftl_X7_site_118 : F_X7_site_118 118 = J_aload 0 119 := rfl
theorem ftl_X7_site_119 : F_X7_site_118 119 = J_getfield 7 35 122 := rfl
theorem ftl_X7_site_122 : F_X7_site_118 122 = J_iload 1 123 := rfl
theorem ftl_X7_site_123 : F_X7_site_118 123 = J_iaload 124 := rfl
theorem ftl_X7_site_124 : F_X7_site_118 124 = J_iastore 125 := rfl
theorem ftl_X7_site_125 : F_X7_site_118 125 = J_aload 0 126 := rfl
theorem ftl_X7_site_126 : F_X7_site_118 126 = J_getfield 7 8 129 := rfl
theorem ftl_X7_site_129 : F_X7_site_118 129 = J_iload 1 130 := rfl
theorem ftl_X7_site_130 : F_X7_site_118 130 = J_aload 0 131 := rfl
theorem ftl_X7_site_131 : F_X7_site_118 131 = J_getfield 7 36 134 := rfl
theorem ftl_X7_site_134 : F_X7_site_118 134 = J_iload 1 135 := rfl
theorem ftl_X7_site_135 : F_X7_site_118 135 = J_iaload 136 := rfl
theorem ftl_X7_site_136 : F_X7_site_118 136 = J_iastore 137 := rfl
theorem ftl_X7_site_137 : F_X7_site_118 137 = J_aload 0 138 := rfl
theorem F_X7_site_118_ok : jOK Y_X7_site none (F_X7_site_118) := (jOK_node (jOK_node (jOK_node (jOK_leaf (sn_aload_n dX7_site_118 rfl rfl)) (jOK_node (jOK_leaf (sn_getfield dX7_site_119 rfl rfl (by decide) tw_649 jin7)) (jOK_leaf (sn_iload_n dX7_site_122 rfl rfl)))) (jOK_node (jOK_node (jOK_leaf (sn_iaload dX7_site_123 rfl)) (jOK_leaf (sn_iastore dX7_site_124 rfl))) (jOK_node (jOK_leaf (sn_aload_n dX7_site_125 rfl rfl)) (jOK_leaf (sn_getfield dX7_site_126 rfl rfl (by decide) tw_622 jin7))))) (jOK_node (jOK_node (jOK_leaf (sn_iload_n dX7_site_129 rfl rfl)) (jOK_node (jOK_leaf (sn_aload_n dX7_site_130 rfl rfl)) (jOK_leaf (sn_getfield dX7_site_131 rfl rfl (by decide) tw_650 jin7)))) (jOK_node (jOK_node (jOK_leaf (sn_iload_n dX7_site_134 rfl rfl)) (jOK_leaf (sn_iaload dX7_site_135 rfl))) (jOK_node (jOK_leaf (sn_iastore dX7_site_136 rfl)) (jOK_leaf (sn_aload_n dX7_site_137 rfl rfl))))))
def F_X7_site_99_137 : Nat → jT := fun pc => bif Nat.blt pc 118 then F_X7_site_99 pc else F_X7_site_118 pc
theorem F_X7_site_99_137_l {pc : Nat} (h : Nat.blt pc 118 = true) : F_X7_site_99_137 pc = F_X7_site_99 pc := by unfold F_X7_site_99_137; rw [h]; rfl
theorem F_X7_site_99_137_r {pc : Nat} (h : Nat.blt pc 118 = false) : F_X7_site_99_137 pc = F_X7_site_118 pc := by unfold F_X7_site_99_137; rw [h]; rfl
theorem F_X7_site_99_137_ok : jOK Y_X7_site none (F_X7_site_99_137) := jOK_node (F_X7_site_99_ok) (F_X7_site_118_ok)
def F_X7_site_138 : Nat → jT := fun pc => (bif Nat.blt pc 149 then (bif Nat.blt pc 144 then (bif Nat.blt pc 141 then (bif Nat.beq pc 138 then J_getfield 7 10 141 else jbad) else (bif Nat.blt pc 143 then (bif Nat.beq pc 141 then J_iconst 32 143 else jbad) else (bif Nat.beq pc 143 then J_iload 1 144 else jbad))) else (bif Nat.blt pc 145 then (bif Nat.beq pc 144 then J_iadd 145 else jbad) else (bif Nat.blt pc 146 then (bif Nat.beq pc 145 then J_aload 0 146 else jbad) else (bif Nat.beq pc 146 then J_getfield 7 5 149 else jbad)))) else (bif Nat.blt pc 152 then (bif Nat.blt pc 150 then (bif Nat.beq pc 149 then J_iload 1 150 else jbad) else (bif Nat.blt pc 151 then (bif Nat.beq pc 150 then J_iaload 151 else jbad) else (bif Nat.beq pc 151 then J_iastore 152 else jbad))) else (bif Nat.blt pc 158 then (bif Nat.blt pc 155 then (bif Nat.beq pc 152 then J_iinc 1 1 155 else jbad) else (bif Nat.beq pc 155 then J_goto 81 else jbad)) else (bif Nat.blt pc 159 then (bif Nat.beq pc 158 then J_aload 0 159 else jbad) else (bif Nat.beq pc 159 then J_iconst 0 160 else jbad)))))
theorem ftl_X7_site_138 : F_X7_site_138 138 = J_getfield 7 10 141 := rfl
theorem ftl_X7_site_141 : F_X7_site_138 141 = J_iconst 32 143 := rfl
theorem ftl_X7_site_143 : F_X7_site_138 143 = J_iload 1 144 := rfl
theorem ftl_X7_site_144 : F_X7_site_138 144 = J_iadd 145 := rfl
theorem ftl_X7_site_145 : F_X7_site_138 145 = J_aload 0 146 := rfl
theorem ftl_X7_site_146 : F_X7_site_138 146 = J_getfield 7 5 149 := rfl
theorem ftl_X7_site_149 : F_X7_site_138 149 = J_iload 1 150 := rfl
theorem ftl_X7_site_150 : F_X7_site_138 150 = J_iaload 151 := rfl
theorem ftl_X7_site_151 : F_X7_site_138 151 = J_iastore 152 := rfl
theorem ftl_X7_site_152 : F_X7_site_138 152 = J_iinc 1 1 155 := rfl
theorem ftl_X7_site_155 : F_X7_site_138 155 = J_goto 81 := rfl
theorem ftl_X7_site_158 : F_X7_site_138 158 = J_aload 0 159 := rfl
theorem ftl_X7_site_159 : F_X7_site_138 159 = J_iconst 0 160 := rfl
theorem F_X7_site_138_ok : jOK Y_X7_site none (F_X7_site_138) := (jOK_node (jOK_node (jOK_node (jOK_leaf (sn_getfield dX7_site_138 rfl rfl (by decide) tw_624 jin7)) (jOK_node (jOK_leaf (sn_bipush dX7_site_141 rfl rfl)) (jOK_leaf (sn_iload_n dX7_site_143 rfl rfl)))) (jOK_node (jOK_leaf (sn_iadd dX7_site_144 rfl)) (jOK_node (jOK_leaf (sn_aload_n dX7_site_145 rfl rfl)) (jOK_leaf (sn_getfield dX7_site_146 rfl rfl (by decide) tw_619 jin7))))) (jOK_node (jOK_node (jOK_leaf (sn_iload_n dX7_site_149 rfl rfl)) (jOK_node (jOK_leaf (sn_iaload dX7_site_150 rfl)) (jOK_leaf (sn_iastore dX7_site_151 rfl)))) (jOK_node (jOK_node (jOK_leaf (sn_iinc dX7_site_152 rfl rfl (by decide))) (jOK_leaf (sn_goto dX7_site_155 rfl))) (jOK_node (jOK_leaf (sn_aload_n dX7_site_158 rfl rfl)) (jOK_leaf (sn_iconst dX7_site_159 rfl rfl))))))
def F_X7_site_160 : Nat → jT := fun pc => (bif Nat.blt pc 171 then (bif Nat.blt pc 167 then (bif Nat.blt pc 163 then (bif Nat.beq pc 160 then J_putI 7 13 163 else jbad) else (bif Nat.blt pc 164 then (bif Nat.beq pc 163 then J_aload 0 164 else jbad) else (bif Nat.beq pc 164 then J_getfield 7 16 167 else jbad))) else (bif Nat.blt pc 169 then (bif Nat.blt pc 168 then (bif Nat.beq pc 167 then J_iconst 0 168 else jbad) else (bif Nat.beq pc 168 then J_iconst 0 169 else jbad)) else (bif Nat.blt pc 170 then (bif Nat.beq pc 169 then J_bastore 170 else jbad) else (bif Nat.beq pc 170 then J_aload 0 171 else jbad)))) else (bif Nat.blt pc 176 then (bif Nat.blt pc 174 then (bif Nat.beq pc 171 then J_getfield 7 16 174 else jbad) else (bif Nat.blt pc 175 then (bif Nat.beq pc 174 then J_iconst 1 175 else jbad) else (bif Nat.beq pc 175 then J_iconst 0 176 else jbad))) else (bif Nat.blt pc 178 then (bif Nat.blt pc 177 then (bif Nat.beq pc 176 then J_bastore 177 else jbad) else (bif Nat.beq pc 177 then J_aload 0 178 else jbad)) else (bif Nat.blt pc 181 then (bif Nat.beq pc 178 then J_getfield 7 2 181 else jbad) else (bif Nat.beq pc 181 then J_ireturn 0 0 else jbad)))))
theorem ftl_X7_site_160 : F_X7_site_160 160 = J_putI 7 13 163 := rfl
theorem ftl_X7_site_163 : F_X7_site_160 163 = J_aload 0 164 := rfl
theorem ftl_X7_site_164 : F_X7_site_160 164 = J_getfield 7 16 167 := rfl
theorem ftl_X7_site_167 : F_X7_site_160 167 = J_iconst 0 168 := rfl
theorem ftl_X7_site_168 : F_X7_site_160 168 = J_iconst 0 169 := rfl
theorem ftl_X7_site_169 : F_X7_site_160 169 = J_bastore 170 := rfl
theorem ftl_X7_site_170 : F_X7_site_160 170 = J_aload 0 171 := rfl
theorem ftl_X7_site_171 : F_X7_site_160 171 = J_getfield 7 16 174 := rfl
theorem ftl_X7_site_174 : F_X7_site_160 174 = J_iconst 1 175 := rfl
theorem ftl_X7_site_175 : F_X7_site_160 175 = J_iconst 0 176 := rfl
theorem ftl_X7_site_176 : F_X7_site_160 176 = J_bastore 177 := rfl
theorem ftl_X7_site_177 : F_X7_site_160 177 = J_aload 0 178 := rfl
theorem ftl_X7_site_178 : F_X7_site_160 178 = J_getfield 7 2 181 := rfl
theorem ftl_X7_site_181 : F_X7_site_160 181 = J_ireturn 0 0 := rfl
theorem F_X7_site_160_ok : jOK Y_X7_site none (F_X7_site_160) := (jOK_node (jOK_node (jOK_node (jOK_leaf (sn_putI tyX7 dX7_site_160 rfl rfl (by decide) tw_627 jin7 tyX7_ok nmX7 rfl rfl)) (jOK_node (jOK_leaf (sn_aload_n dX7_site_163 rfl rfl)) (jOK_leaf (sn_getfield dX7_site_164 rfl rfl (by decide) tw_630 jin7)))) (jOK_node (jOK_node (jOK_leaf (sn_iconst dX7_site_167 rfl rfl)) (jOK_leaf (sn_iconst dX7_site_168 rfl rfl))) (jOK_node (jOK_leaf (sn_bastore dX7_site_169 rfl)) (jOK_leaf (sn_aload_n dX7_site_170 rfl rfl))))) (jOK_node (jOK_node (jOK_leaf (sn_getfield dX7_site_171 rfl rfl (by decide) tw_630 jin7)) (jOK_node (jOK_leaf (sn_iconst dX7_site_174 rfl rfl)) (jOK_leaf (sn_iconst dX7_site_175 rfl rfl)))) (jOK_node (jOK_node (jOK_leaf (sn_bastore dX7_site_176 rfl)) (jOK_leaf (sn_aload_n dX7_site_177 rfl rfl))) (jOK_node (jOK_leaf (sn_getfield dX7_site_178 rfl rfl (by decide) tw_616 jin7)) (jOK_leaf (sn_ireturn dX7_site_181 rfl rfl))))))
def F_X7_site_138_181 : Nat → jT := fun pc => bif Nat.blt pc 160 then F_X7_site_138 pc else F_X7_site_160 pc
theorem F_X7_site_138_181_l {pc : Nat} (h : Nat.blt pc 160 = true) : F_X7_site_138_181 pc = F_X7_site_138 pc := by unfold F_X7_site_138_181; rw [h]; rfl
theorem F_X7_site_138_181_r {pc : Nat} (h : Nat.blt pc 160 = false) : F_X7_site_138_181 pc = F_X7_site_160 pc := by unfold F_X7_site_138_181; rw [h]; rfl
theorem F_X7_site_138_181_ok : jOK Y_X7_site none (F_X7_site_138_181) := jOK_node (F_X7_site_138_ok) (F_X7_site_160_ok)
def F_X7_site_99_181 : Nat → jT := fun pc => bif Nat.blt pc 138 then F_X7_site_99_137 pc else F_X7_site_138_181 pc
theorem F_X7_site_99_181_l {pc : Nat} (h : Nat.blt pc 138 = true) : F_X7_site_99_181 pc = F_X7_site_99_137 pc := by unfold F_X7_site_99_181; rw [h]; rfl
theorem F_X7_site_99_181_r {pc : Nat} (h : Nat.blt pc 138 = false) : F_X7_site_99_181 pc = F_X7_site_138_181 pc := by unfold F_X7_site_99_181; rw [h]; rfl
theorem F_X7_site_99_181_ok : jOK Y_X7_site none (F_X7_site_99_181) := jOK_node (F_X7_site_99_137_ok) (F_X7_site_138_181_ok)
def F_X7_site_0_181 : Nat → jT := fun pc => bif Nat.blt pc 99 then F_X7_site_0_98 pc else F_X7_site_99_181 pc
theorem F_X7_site_0_181_l {pc : Nat} (h : Nat.blt pc 99 = true) : F_X7_site_0_181 pc = F_X7_site_0_98 pc := by unfold F_X7_site_0_181; rw [h]; rfl
theorem F_X7_site_0_181_r {pc : Nat} (h : Nat.blt pc 99 = false) : F_X7_site_0_181 pc = F_X7_site_99_181 pc := by unfold F_X7_site_0_181; rw [h]; rfl
theorem F_X7_site_0_181_ok : jOK Y_X7_site none (F_X7_site_0_181) := jOK_node (F_X7_site_0_98_ok) (F_X7_site_99_181_ok)
def F_X7_site : Nat → jT := F_X7_site_0_181
theorem OK_X7_site : jOK Y_X7_site none (F_X7_site) := F_X7_site_0_181_ok
theorem ft_X7_site_0 : F_X7_site 0 = J_aload 0 1 := (F_X7_site_0_181_l rfl).trans ((F_X7_site_0_98_l rfl).trans ((F_X7_site_0_51_l rfl).trans (ftl_X7_site_0)))
theorem ft_X7_site_1 : F_X7_site 1 = J_callV 7 S_X7_readText 0 4 := (F_X7_site_0_181_l rfl).trans ((F_X7_site_0_98_l rfl).trans ((F_X7_site_0_51_l rfl).trans (ftl_X7_site_1)))
theorem ft_X7_site_4 : F_X7_site 4 = J_iconst (-9) 6 := (F_X7_site_0_181_l rfl).trans ((F_X7_site_0_98_l rfl).trans ((F_X7_site_0_51_l rfl).trans (ftl_X7_site_4)))
theorem ft_X7_site_6 : F_X7_site 6 = J_iceq 12 9 := (F_X7_site_0_181_l rfl).trans ((F_X7_site_0_98_l rfl).trans ((F_X7_site_0_51_l rfl).trans (ftl_X7_site_6)))
theorem ft_X7_site_9 : F_X7_site 9 = J_iconst (-3) 11 := (F_X7_site_0_181_l rfl).trans ((F_X7_site_0_98_l rfl).trans ((F_X7_site_0_51_l rfl).trans (ftl_X7_site_9)))
theorem ft_X7_site_11 : F_X7_site 11 = J_ireturn 0 0 := (F_X7_site_0_181_l rfl).trans ((F_X7_site_0_98_l rfl).trans ((F_X7_site_0_51_l rfl).trans (ftl_X7_site_11)))
theorem ft_X7_site_12 : F_X7_site 12 = J_aload 0 13 := (F_X7_site_0_181_l rfl).trans ((F_X7_site_0_98_l rfl).trans ((F_X7_site_0_51_l rfl).trans (ftl_X7_site_12)))
theorem ft_X7_site_13 : F_X7_site 13 = J_callV 7 S_X7_fresh 0 16 := (F_X7_site_0_181_l rfl).trans ((F_X7_site_0_98_l rfl).trans ((F_X7_site_0_51_l rfl).trans (ftl_X7_site_13)))
theorem ft_X7_site_16 : F_X7_site 16 = J_aload 0 17 := (F_X7_site_0_181_l rfl).trans ((F_X7_site_0_98_l rfl).trans ((F_X7_site_0_51_l rfl).trans (ftl_X7_site_16)))
theorem ft_X7_site_17 : F_X7_site 17 = J_aload 0 18 := (F_X7_site_0_181_l rfl).trans ((F_X7_site_0_98_l rfl).trans ((F_X7_site_0_51_l rfl).trans (ftl_X7_site_17)))
theorem ft_X7_site_18 : F_X7_site 18 = J_getfield 7 30 21 := (F_X7_site_0_181_l rfl).trans ((F_X7_site_0_98_l rfl).trans ((F_X7_site_0_51_l rfl).trans (ftl_X7_site_18)))
theorem ft_X7_site_21 : F_X7_site 21 = J_putI 7 2 24 := (F_X7_site_0_181_l rfl).trans ((F_X7_site_0_98_l rfl).trans ((F_X7_site_0_51_l rfl).trans (ftl_X7_site_21)))
theorem ft_X7_site_24 : F_X7_site 24 = J_aload 0 25 := (F_X7_site_0_181_l rfl).trans ((F_X7_site_0_98_l rfl).trans ((F_X7_site_0_51_l rfl).trans (ftl_X7_site_24)))
theorem ft_X7_site_25 : F_X7_site 25 = J_aload 0 26 := (F_X7_site_0_181_l rfl).trans ((F_X7_site_0_98_l rfl).trans ((F_X7_site_0_51_r rfl).trans (ftl_X7_site_25)))
theorem ft_X7_site_26 : F_X7_site 26 = J_getfield 7 32 29 := (F_X7_site_0_181_l rfl).trans ((F_X7_site_0_98_l rfl).trans ((F_X7_site_0_51_r rfl).trans (ftl_X7_site_26)))
theorem ft_X7_site_29 : F_X7_site 29 = J_putI 7 4 32 := (F_X7_site_0_181_l rfl).trans ((F_X7_site_0_98_l rfl).trans ((F_X7_site_0_51_r rfl).trans (ftl_X7_site_29)))
theorem ft_X7_site_32 : F_X7_site 32 = J_aload 0 33 := (F_X7_site_0_181_l rfl).trans ((F_X7_site_0_98_l rfl).trans ((F_X7_site_0_51_r rfl).trans (ftl_X7_site_32)))
theorem ft_X7_site_33 : F_X7_site 33 = J_aload 0 34 := (F_X7_site_0_181_l rfl).trans ((F_X7_site_0_98_l rfl).trans ((F_X7_site_0_51_r rfl).trans (ftl_X7_site_33)))
theorem ft_X7_site_34 : F_X7_site 34 = J_getfield 7 29 37 := (F_X7_site_0_181_l rfl).trans ((F_X7_site_0_98_l rfl).trans ((F_X7_site_0_51_r rfl).trans (ftl_X7_site_34)))
theorem ft_X7_site_37 : F_X7_site 37 = J_putI 7 9 40 := (F_X7_site_0_181_l rfl).trans ((F_X7_site_0_98_l rfl).trans ((F_X7_site_0_51_r rfl).trans (ftl_X7_site_37)))
theorem ft_X7_site_40 : F_X7_site 40 = J_aload 0 41 := (F_X7_site_0_181_l rfl).trans ((F_X7_site_0_98_l rfl).trans ((F_X7_site_0_51_r rfl).trans (ftl_X7_site_40)))
theorem ft_X7_site_41 : F_X7_site 41 = J_getfield 7 10 44 := (F_X7_site_0_181_l rfl).trans ((F_X7_site_0_98_l rfl).trans ((F_X7_site_0_51_r rfl).trans (ftl_X7_site_41)))
theorem ft_X7_site_44 : F_X7_site 44 = J_iconst 38 46 := (F_X7_site_0_181_l rfl).trans ((F_X7_site_0_98_l rfl).trans ((F_X7_site_0_51_r rfl).trans (ftl_X7_site_44)))
theorem ft_X7_site_46 : F_X7_site 46 = J_aload 0 47 := (F_X7_site_0_181_l rfl).trans ((F_X7_site_0_98_l rfl).trans ((F_X7_site_0_51_r rfl).trans (ftl_X7_site_46)))
theorem ft_X7_site_47 : F_X7_site 47 = J_getfield 7 28 50 := (F_X7_site_0_181_l rfl).trans ((F_X7_site_0_98_l rfl).trans ((F_X7_site_0_51_r rfl).trans (ftl_X7_site_47)))
theorem ft_X7_site_50 : F_X7_site 50 = J_iastore 51 := (F_X7_site_0_181_l rfl).trans ((F_X7_site_0_98_l rfl).trans ((F_X7_site_0_51_r rfl).trans (ftl_X7_site_50)))
theorem ft_X7_site_51 : F_X7_site 51 = J_iconst 0 52 := (F_X7_site_0_181_l rfl).trans ((F_X7_site_0_98_l rfl).trans ((F_X7_site_0_51_r rfl).trans (ftl_X7_site_51)))
theorem ft_X7_site_52 : F_X7_site 52 = J_istore 1 53 := (F_X7_site_0_181_l rfl).trans ((F_X7_site_0_98_r rfl).trans ((F_X7_site_52_98_l rfl).trans (ftl_X7_site_52)))
theorem ft_X7_site_53 : F_X7_site 53 = J_iload 1 54 := (F_X7_site_0_181_l rfl).trans ((F_X7_site_0_98_r rfl).trans ((F_X7_site_52_98_l rfl).trans (ftl_X7_site_53)))
theorem ft_X7_site_54 : F_X7_site 54 = J_aload 0 55 := (F_X7_site_0_181_l rfl).trans ((F_X7_site_0_98_r rfl).trans ((F_X7_site_52_98_l rfl).trans (ftl_X7_site_54)))
theorem ft_X7_site_55 : F_X7_site 55 = J_getfield 7 2 58 := (F_X7_site_0_181_l rfl).trans ((F_X7_site_0_98_r rfl).trans ((F_X7_site_52_98_l rfl).trans (ftl_X7_site_55)))
theorem ft_X7_site_58 : F_X7_site 58 = J_icge 79 61 := (F_X7_site_0_181_l rfl).trans ((F_X7_site_0_98_r rfl).trans ((F_X7_site_52_98_l rfl).trans (ftl_X7_site_58)))
theorem ft_X7_site_61 : F_X7_site 61 = J_aload 0 62 := (F_X7_site_0_181_l rfl).trans ((F_X7_site_0_98_r rfl).trans ((F_X7_site_52_98_l rfl).trans (ftl_X7_site_61)))
theorem ft_X7_site_62 : F_X7_site 62 = J_getfield 7 3 65 := (F_X7_site_0_181_l rfl).trans ((F_X7_site_0_98_r rfl).trans ((F_X7_site_52_98_l rfl).trans (ftl_X7_site_62)))
theorem ft_X7_site_65 : F_X7_site 65 = J_iload 1 66 := (F_X7_site_0_181_l rfl).trans ((F_X7_site_0_98_r rfl).trans ((F_X7_site_52_98_l rfl).trans (ftl_X7_site_65)))
theorem ft_X7_site_66 : F_X7_site 66 = J_aload 0 67 := (F_X7_site_0_181_l rfl).trans ((F_X7_site_0_98_r rfl).trans ((F_X7_site_52_98_l rfl).trans (ftl_X7_site_66)))
theorem ft_X7_site_67 : F_X7_site 67 = J_getfield 7 31 70 := (F_X7_site_0_181_l rfl).trans ((F_X7_site_0_98_r rfl).trans ((F_X7_site_52_98_l rfl).trans (ftl_X7_site_67)))
theorem ft_X7_site_70 : F_X7_site 70 = J_iload 1 71 := (F_X7_site_0_181_l rfl).trans ((F_X7_site_0_98_r rfl).trans ((F_X7_site_52_98_l rfl).trans (ftl_X7_site_70)))
theorem ft_X7_site_71 : F_X7_site 71 = J_iaload 72 := (F_X7_site_0_181_l rfl).trans ((F_X7_site_0_98_r rfl).trans ((F_X7_site_52_98_l rfl).trans (ftl_X7_site_71)))
theorem ft_X7_site_72 : F_X7_site 72 = J_iastore 73 := (F_X7_site_0_181_l rfl).trans ((F_X7_site_0_98_r rfl).trans ((F_X7_site_52_98_l rfl).trans (ftl_X7_site_72)))
theorem ft_X7_site_73 : F_X7_site 73 = J_iinc 1 1 76 := (F_X7_site_0_181_l rfl).trans ((F_X7_site_0_98_r rfl).trans ((F_X7_site_52_98_r rfl).trans (ftl_X7_site_73)))
theorem ft_X7_site_76 : F_X7_site 76 = J_goto 53 := (F_X7_site_0_181_l rfl).trans ((F_X7_site_0_98_r rfl).trans ((F_X7_site_52_98_r rfl).trans (ftl_X7_site_76)))
theorem ft_X7_site_79 : F_X7_site 79 = J_iconst 0 80 := (F_X7_site_0_181_l rfl).trans ((F_X7_site_0_98_r rfl).trans ((F_X7_site_52_98_r rfl).trans (ftl_X7_site_79)))
theorem ft_X7_site_80 : F_X7_site 80 = J_istore 1 81 := (F_X7_site_0_181_l rfl).trans ((F_X7_site_0_98_r rfl).trans ((F_X7_site_52_98_r rfl).trans (ftl_X7_site_80)))
theorem ft_X7_site_81 : F_X7_site 81 = J_iload 1 82 := (F_X7_site_0_181_l rfl).trans ((F_X7_site_0_98_r rfl).trans ((F_X7_site_52_98_r rfl).trans (ftl_X7_site_81)))
theorem ft_X7_site_82 : F_X7_site 82 = J_aload 0 83 := (F_X7_site_0_181_l rfl).trans ((F_X7_site_0_98_r rfl).trans ((F_X7_site_52_98_r rfl).trans (ftl_X7_site_82)))
theorem ft_X7_site_83 : F_X7_site 83 = J_getfield 7 4 86 := (F_X7_site_0_181_l rfl).trans ((F_X7_site_0_98_r rfl).trans ((F_X7_site_52_98_r rfl).trans (ftl_X7_site_83)))
theorem ft_X7_site_86 : F_X7_site 86 = J_icge 158 89 := (F_X7_site_0_181_l rfl).trans ((F_X7_site_0_98_r rfl).trans ((F_X7_site_52_98_r rfl).trans (ftl_X7_site_86)))
theorem ft_X7_site_89 : F_X7_site 89 = J_aload 0 90 := (F_X7_site_0_181_l rfl).trans ((F_X7_site_0_98_r rfl).trans ((F_X7_site_52_98_r rfl).trans (ftl_X7_site_89)))
theorem ft_X7_site_90 : F_X7_site 90 = J_getfield 7 5 93 := (F_X7_site_0_181_l rfl).trans ((F_X7_site_0_98_r rfl).trans ((F_X7_site_52_98_r rfl).trans (ftl_X7_site_90)))
theorem ft_X7_site_93 : F_X7_site 93 = J_iload 1 94 := (F_X7_site_0_181_l rfl).trans ((F_X7_site_0_98_r rfl).trans ((F_X7_site_52_98_r rfl).trans (ftl_X7_site_93)))
theorem ft_X7_site_94 : F_X7_site 94 = J_aload 0 95 := (F_X7_site_0_181_l rfl).trans ((F_X7_site_0_98_r rfl).trans ((F_X7_site_52_98_r rfl).trans (ftl_X7_site_94)))
theorem ft_X7_site_95 : F_X7_site 95 = J_getfield 7 33 98 := (F_X7_site_0_181_l rfl).trans ((F_X7_site_0_98_r rfl).trans ((F_X7_site_52_98_r rfl).trans (ftl_X7_site_95)))
theorem ft_X7_site_98 : F_X7_site 98 = J_iload 1 99 := (F_X7_site_0_181_l rfl).trans ((F_X7_site_0_98_r rfl).trans ((F_X7_site_52_98_r rfl).trans (ftl_X7_site_98)))
theorem ft_X7_site_99 : F_X7_site 99 = J_iaload 100 := (F_X7_site_0_181_r rfl).trans ((F_X7_site_99_181_l rfl).trans ((F_X7_site_99_137_l rfl).trans (ftl_X7_site_99)))
theorem ft_X7_site_100 : F_X7_site 100 = J_iastore 101 := (F_X7_site_0_181_r rfl).trans ((F_X7_site_99_181_l rfl).trans ((F_X7_site_99_137_l rfl).trans (ftl_X7_site_100)))
theorem ft_X7_site_101 : F_X7_site 101 = J_aload 0 102 := (F_X7_site_0_181_r rfl).trans ((F_X7_site_99_181_l rfl).trans ((F_X7_site_99_137_l rfl).trans (ftl_X7_site_101)))
theorem ft_X7_site_102 : F_X7_site 102 = J_getfield 7 6 105 := (F_X7_site_0_181_r rfl).trans ((F_X7_site_99_181_l rfl).trans ((F_X7_site_99_137_l rfl).trans (ftl_X7_site_102)))
theorem ft_X7_site_105 : F_X7_site 105 = J_iload 1 106 := (F_X7_site_0_181_r rfl).trans ((F_X7_site_99_181_l rfl).trans ((F_X7_site_99_137_l rfl).trans (ftl_X7_site_105)))
theorem ft_X7_site_106 : F_X7_site 106 = J_aload 0 107 := (F_X7_site_0_181_r rfl).trans ((F_X7_site_99_181_l rfl).trans ((F_X7_site_99_137_l rfl).trans (ftl_X7_site_106)))
theorem ft_X7_site_107 : F_X7_site 107 = J_getfield 7 34 110 := (F_X7_site_0_181_r rfl).trans ((F_X7_site_99_181_l rfl).trans ((F_X7_site_99_137_l rfl).trans (ftl_X7_site_107)))
theorem ft_X7_site_110 : F_X7_site 110 = J_iload 1 111 := (F_X7_site_0_181_r rfl).trans ((F_X7_site_99_181_l rfl).trans ((F_X7_site_99_137_l rfl).trans (ftl_X7_site_110)))
theorem ft_X7_site_111 : F_X7_site 111 = J_iaload 112 := (F_X7_site_0_181_r rfl).trans ((F_X7_site_99_181_l rfl).trans ((F_X7_site_99_137_l rfl).trans (ftl_X7_site_111)))
theorem ft_X7_site_112 : F_X7_site 112 = J_iastore 113 := (F_X7_site_0_181_r rfl).trans ((F_X7_site_99_181_l rfl).trans ((F_X7_site_99_137_l rfl).trans (ftl_X7_site_112)))
theorem ft_X7_site_113 : F_X7_site 113 = J_aload 0 114 := (F_X7_site_0_181_r rfl).trans ((F_X7_site_99_181_l rfl).trans ((F_X7_site_99_137_l rfl).trans (ftl_X7_site_113)))
theorem ft_X7_site_114 : F_X7_site 114 = J_getfield 7 7 117 := (F_X7_site_0_181_r rfl).trans ((F_X7_site_99_181_l rfl).trans ((F_X7_site_99_137_l rfl).trans (ftl_X7_site_114)))
theorem ft_X7_site_117 : F_X7_site 117 = J_iload 1 118 := (F_X7_site_0_181_r rfl).trans ((F_X7_site_99_181_l rfl).trans ((F_X7_site_99_137_l rfl).trans (ftl_X7_site_117)))
theorem ft_X7_site_118 : F_X7_site 118 = J_aload 0 119 := (F_X7_site_0_181_r rfl).trans ((F_X7_site_99_181_l rfl).trans ((F_X7_site_99_137_r rfl).trans (ftl_X7_site_118)))
theorem ft_X7_site_119 : F_X7_site 119 = J_getfield 7 35 122 := (F_X7_site_0_181_r rfl).trans ((F_X7_site_99_181_l rfl).trans ((F_X7_site_99_137_r rfl).trans (ftl_X7_site_119)))
theorem ft_X7_site_122 : F_X7_site 122 = J_iload 1 123 := (F_X7_site_0_181_r rfl).trans ((F_X7_site_99_181_l rfl).trans ((F_X7_site_99_137_r rfl).trans (ftl_X7_site_122)))
theorem ft_X7_site_123 : F_X7_site 123 = J_iaload 124 := (F_X7_site_0_181_r rfl).trans ((F_X7_site_99_181_l rfl).trans ((F_X7_site_99_137_r rfl).trans (ftl_X7_site_123)))
theorem ft_X7_site_124 : F_X7_site 124 = J_iastore 125 := (F_X7_site_0_181_r rfl).trans ((F_X7_site_99_181_l rfl).trans ((F_X7_site_99_137_r rfl).trans (ftl_X7_site_124)))
theorem ft_X7_site_125 : F_X7_site 125 = J_aload 0 126 := (F_X7_site_0_181_r rfl).trans ((F_X7_site_99_181_l rfl).trans ((F_X7_site_99_137_r rfl).trans (ftl_X7_site_125)))
theorem ft_X7_site_126 : F_X7_site 126 = J_getfield 7 8 129 := (F_X7_site_0_181_r rfl).trans ((F_X7_site_99_181_l rfl).trans ((F_X7_site_99_137_r rfl).trans (ftl_X7_site_126)))
theorem ft_X7_site_129 : F_X7_site 129 = J_iload 1 130 := (F_X7_site_0_181_r rfl).trans ((F_X7_site_99_181_l rfl).trans ((F_X7_site_99_137_r rfl).trans (ftl_X7_site_129)))
theorem ft_X7_site_130 : F_X7_site 130 = J_aload 0 131 := (F_X7_site_0_181_r rfl).trans ((F_X7_site_99_181_l rfl).trans ((F_X7_site_99_137_r rfl).trans (ftl_X7_site_130)))
theorem ft_X7_site_131 : F_X7_site 131 = J_getfield 7 36 134 := (F_X7_site_0_181_r rfl).trans ((F_X7_site_99_181_l rfl).trans ((F_X7_site_99_137_r rfl).trans (ftl_X7_site_131)))
theorem ft_X7_site_134 : F_X7_site 134 = J_iload 1 135 := (F_X7_site_0_181_r rfl).trans ((F_X7_site_99_181_l rfl).trans ((F_X7_site_99_137_r rfl).trans (ftl_X7_site_134)))
theorem ft_X7_site_135 : F_X7_site 135 = J_iaload 136 := (F_X7_site_0_181_r rfl).trans ((F_X7_site_99_181_l rfl).trans ((F_X7_site_99_137_r rfl).trans (ftl_X7_site_135)))
theorem ft_X7_site_136 : F_X7_site 136 = J_iastore 137 := (F_X7_site_0_181_r rfl).trans ((F_X7_site_99_181_l rfl).trans ((F_X7_site_99_137_r rfl).trans (ftl_X7_site_136)))
theorem ft_X7_site_137 : F_X7_site 137 = J_aload 0 138 := (F_X7_site_0_181_r rfl).trans ((F_X7_site_99_181_l rfl).trans ((F_X7_site_99_137_r rfl).trans (ftl_X7_site_137)))
theorem ft_X7_site_138 : F_X7_site 138 = J_getfield 7 10 141 := (F_X7_site_0_181_r rfl).trans ((F_X7_site_99_181_r rfl).trans ((F_X7_site_138_181_l rfl).trans (ftl_X7_site_138)))
theorem ft_X7_site_141 : F_X7_site 141 = J_iconst 32 143 := (F_X7_site_0_181_r rfl).trans ((F_X7_site_99_181_r rfl).trans ((F_X7_site_138_181_l rfl).trans (ftl_X7_site_141)))
theorem ft_X7_site_143 : F_X7_site 143 = J_iload 1 144 := (F_X7_site_0_181_r rfl).trans ((F_X7_site_99_181_r rfl).trans ((F_X7_site_138_181_l rfl).trans (ftl_X7_site_143)))
theorem ft_X7_site_144 : F_X7_site 144 = J_iadd 145 := (F_X7_site_0_181_r rfl).trans ((F_X7_site_99_181_r rfl).trans ((F_X7_site_138_181_l rfl).trans (ftl_X7_site_144)))
theorem ft_X7_site_145 : F_X7_site 145 = J_aload 0 146 := (F_X7_site_0_181_r rfl).trans ((F_X7_site_99_181_r rfl).trans ((F_X7_site_138_181_l rfl).trans (ftl_X7_site_145)))
theorem ft_X7_site_146 : F_X7_site 146 = J_getfield 7 5 149 := (F_X7_site_0_181_r rfl).trans ((F_X7_site_99_181_r rfl).trans ((F_X7_site_138_181_l rfl).trans (ftl_X7_site_146)))
theorem ft_X7_site_149 : F_X7_site 149 = J_iload 1 150 := (F_X7_site_0_181_r rfl).trans ((F_X7_site_99_181_r rfl).trans ((F_X7_site_138_181_l rfl).trans (ftl_X7_site_149)))
theorem ft_X7_site_150 : F_X7_site 150 = J_iaload 151 := (F_X7_site_0_181_r rfl).trans ((F_X7_site_99_181_r rfl).trans ((F_X7_site_138_181_l rfl).trans (ftl_X7_site_150)))
theorem ft_X7_site_151 : F_X7_site 151 = J_iastore 152 := (F_X7_site_0_181_r rfl).trans ((F_X7_site_99_181_r rfl).trans ((F_X7_site_138_181_l rfl).trans (ftl_X7_site_151)))
theorem ft_X7_site_152 : F_X7_site 152 = J_iinc 1 1 155 := (F_X7_site_0_181_r rfl).trans ((F_X7_site_99_181_r rfl).trans ((F_X7_site_138_181_l rfl).trans (ftl_X7_site_152)))
theorem ft_X7_site_155 : F_X7_site 155 = J_goto 81 := (F_X7_site_0_181_r rfl).trans ((F_X7_site_99_181_r rfl).trans ((F_X7_site_138_181_l rfl).trans (ftl_X7_site_155)))
theorem ft_X7_site_158 : F_X7_site 158 = J_aload 0 159 := (F_X7_site_0_181_r rfl).trans ((F_X7_site_99_181_r rfl).trans ((F_X7_site_138_181_l rfl).trans (ftl_X7_site_158)))
theorem ft_X7_site_159 : F_X7_site 159 = J_iconst 0 160 := (F_X7_site_0_181_r rfl).trans ((F_X7_site_99_181_r rfl).trans ((F_X7_site_138_181_l rfl).trans (ftl_X7_site_159)))
theorem ft_X7_site_160 : F_X7_site 160 = J_putI 7 13 163 := (F_X7_site_0_181_r rfl).trans ((F_X7_site_99_181_r rfl).trans ((F_X7_site_138_181_r rfl).trans (ftl_X7_site_160)))
theorem ft_X7_site_163 : F_X7_site 163 = J_aload 0 164 := (F_X7_site_0_181_r rfl).trans ((F_X7_site_99_181_r rfl).trans ((F_X7_site_138_181_r rfl).trans (ftl_X7_site_163)))
theorem ft_X7_site_164 : F_X7_site 164 = J_getfield 7 16 167 := (F_X7_site_0_181_r rfl).trans ((F_X7_site_99_181_r rfl).trans ((F_X7_site_138_181_r rfl).trans (ftl_X7_site_164)))
theorem ft_X7_site_167 : F_X7_site 167 = J_iconst 0 168 := (F_X7_site_0_181_r rfl).trans ((F_X7_site_99_181_r rfl).trans ((F_X7_site_138_181_r rfl).trans (ftl_X7_site_167)))
theorem ft_X7_site_168 : F_X7_site 168 = J_iconst 0 169 := (F_X7_site_0_181_r rfl).trans ((F_X7_site_99_181_r rfl).trans ((F_X7_site_138_181_r rfl).trans (ftl_X7_site_168)))
theorem ft_X7_site_169 : F_X7_site 169 = J_bastore 170 := (F_X7_site_0_181_r rfl).trans ((F_X7_site_99_181_r rfl).trans ((F_X7_site_138_181_r rfl).trans (ftl_X7_site_169)))
theorem ft_X7_site_170 : F_X7_site 170 = J_aload 0 171 := (F_X7_site_0_181_r rfl).trans ((F_X7_site_99_181_r rfl).trans ((F_X7_site_138_181_r rfl).trans (ftl_X7_site_170)))
theorem ft_X7_site_171 : F_X7_site 171 = J_getfield 7 16 174 := (F_X7_site_0_181_r rfl).trans ((F_X7_site_99_181_r rfl).trans ((F_X7_site_138_181_r rfl).trans (ftl_X7_site_171)))
theorem ft_X7_site_174 : F_X7_site 174 = J_iconst 1 175 := (F_X7_site_0_181_r rfl).trans ((F_X7_site_99_181_r rfl).trans ((F_X7_site_138_181_r rfl).trans (ftl_X7_site_174)))
theorem ft_X7_site_175 : F_X7_site 175 = J_iconst 0 176 := (F_X7_site_0_181_r rfl).trans ((F_X7_site_99_181_r rfl).trans ((F_X7_site_138_181_r rfl).trans (ftl_X7_site_175)))
theorem ft_X7_site_176 : F_X7_site 176 = J_bastore 177 := (F_X7_site_0_181_r rfl).trans ((F_X7_site_99_181_r rfl).trans ((F_X7_site_138_181_r rfl).trans (ftl_X7_site_176)))
theorem ft_X7_site_177 : F_X7_site 177 = J_aload 0 178 := (F_X7_site_0_181_r rfl).trans ((F_X7_site_99_181_r rfl).trans ((F_X7_site_138_181_r rfl).trans (ftl_X7_site_177)))
theorem ft_X7_site_178 : F_X7_site 178 = J_getfield 7 2 181 := (F_X7_site_0_181_r rfl).trans ((F_X7_site_99_181_r rfl).trans ((F_X7_site_138_181_r rfl).trans (ftl_X7_site_178)))
theorem ft_X7_site_181 : F_X7_site 181 = J_ireturn 0 0 := (F_X7_site_0_181_r rfl).trans ((F_X7_site_99_181_r rfl).trans ((F_X7_site_138_181_r rfl).trans (ftl_X7_site_181)))
theorem lp_X7_site2 {Q : jQ} {M : Nat → Nat → Int32} {z : Nat → Int64} {nb P K : Nat} {N M1 R D : Nat → Int32} (hK : K ≤ 6) (eP : M 71 2 = nI P) (eK : M 71 4 = nI K) (e90 : M 90 = N) (e91 : M 91 = M1) (e92 : M 92 = R) (e93 : M 93 = D)
    (h : ∀ C' : Nat → Nat → Int32, (∀ a, a ≠ 71 → a ≠ 82 → (a < 74 ∨ 78 < a) → C' a = M a) → C' 71 = upd (M 71) 13 0 → (C' 82 0 = 0 ∧ C' 82 1 = 0) → (∀ c, C' 74 c = (if c < K then N c else M 74 c) ∧ C' 75 c = (if c < K then M1 c else M 75 c) ∧ C' 76 c = (if c < K then R c else M 76 c) ∧ C' 77 c = (if c < K then D c else M 77 c)) → (∀ i, C' 78 i = if 32 ≤ i ∧ i < 32 + K then N (i - 32) else M 78 i) → Q (some (.int (nI P))) (memS 94 C' z)) :
    ∀ k j, j + k = K → ∀ C' : Nat → Nat → Int32, (∀ a, (a < 74 ∨ 78 < a) → C' a = M a) → (∀ c, C' 74 c = (if c < j then N c else M 74 c) ∧ C' 75 c = (if c < j then M1 c else M 75 c) ∧ C' 76 c = (if c < j then R c else M 76 c) ∧ C' 77 c = (if c < j then D c else M 77 c)) → (∀ i, C' 78 i = if 32 ≤ i ∧ i < 32 + j then N (i - 32) else M 78 i) → Rn Y_X7_site none Q 81 [some (.ref 71), some (.int (nI j))] [] (memS 94 C' z) (nb, 0, 0) := by
  intro k
  induction k with
  | zero =>
    intro j hj C' h1 h2 h3
    have hjn : j = K := by omega
    subst hjn
    have hq : (nI j ≤ nI j) = True := eq_true (nI_le (by omega) (by omega))
    have e71 := h1 71 (by omega)
    have v0 : vp_in (0 : Int32) 2 := vp_in_nI (n := 0) (by decide) (by decide)
    have v1 : vp_in (1 : Int32) 2 := vp_in_nI (n := 1) (by decide) (by decide)
    refine jrun_first OK_X7_site (C := [53, 81]) 60 ?_
    simp -implicitDefEqProofs only [jr_0, jr_1, jr_2, j_iconst, j_lconst, j_iload0, j_aload0, j_istore0, j_astore0, j_iinc0, j_iload1, j_aload1, j_istore1, j_astore1, j_iinc1, j_iload2, j_aload2, j_istore2, j_astore2, j_iinc2, j_iload3, j_aload3, j_istore3, j_astore3, j_iinc3, j_iload4, j_aload4, j_istore4, j_astore4, j_iinc4, j_iload5, j_aload5, j_istore5, j_astore5, j_iinc5, j_iload6, j_aload6, j_istore6, j_astore6, j_iinc6, j_iload7, j_aload7, j_istore7, j_astore7, j_iinc7, j_iload8, j_aload8, j_istore8, j_astore8, j_iinc8, j_iadd, j_isub, j_imul, j_iand, j_ior, j_ixor, j_ishl, j_ishr, j_iushr, j_idiv, j_irem, j_ineg, j_ladd, j_lmul, j_land, j_lor, j_lcmp, j_lushr, j_lshl, j_i2l, j_l2i, j_dupI, j_dupR, j_popI, j_dup2, j_ifeq, j_iceq, j_ifne, j_icne, j_iflt, j_iclt, j_ifge, j_icge, j_ifgt, j_icgt, j_ifle, j_icle, j_goto, j_tsw, j_sw0, j_sw1, j_ireturn, j_zreturn, j_lreturn, j_return, j_getfield, j_putI, j_putJ, j_putR, j_iaload, j_baload, j_iastore, j_bastore, j_aaload, j_q, j_aastore, j_acopy, j_mmin, j_mmax, j_mabs, j_objinit, j_new, j_newI, j_newQ, j_sld, j_slen, j_callV0, j_callI0, j_callS0, j_callV1, j_callI1, j_callS1, j_callV2, j_callI2, j_callS2, j_callV3, j_callS3, j_callV4, j_callS4, j_callV5, j_callS5, j_pushS, j_pushN, j_sh0, j_sh1, j_sh2, j_sh3, j_sh4, Int32.reduceAdd, Int32.reduceMul, Int32.reduceSub, Int32.reduceLT, Int32.reduceLE, eq_self, i32_10, i32_01, ne_eq, hrow_s, hrow_n, ne10, ne100, ne1000, ne7, ne4, ne14, ne9973, or_true, true_or, or_false, false_or, not_true_eq_false, not_false_eq_true, false_implies, implies_true, and_true, forall_const, true_implies, jargs_n, jargs_r, jargs_i, List.cons_append, List.nil_append, true_and, Nat.reduceEqDiff, reduceIte, ft_X7_site_0, ft_X7_site_1, ft_X7_site_4, ft_X7_site_6, ft_X7_site_9, ft_X7_site_11, ft_X7_site_12, ft_X7_site_13, ft_X7_site_16, ft_X7_site_17, ft_X7_site_18, ft_X7_site_21, ft_X7_site_24, ft_X7_site_25, ft_X7_site_26, ft_X7_site_29, ft_X7_site_32, ft_X7_site_33, ft_X7_site_34, ft_X7_site_37, ft_X7_site_40, ft_X7_site_41, ft_X7_site_44, ft_X7_site_46, ft_X7_site_47, ft_X7_site_50, ft_X7_site_51, ft_X7_site_52, ft_X7_site_53, ft_X7_site_54, ft_X7_site_55, ft_X7_site_58, ft_X7_site_61, ft_X7_site_62, ft_X7_site_65, ft_X7_site_66, ft_X7_site_67, ft_X7_site_70, ft_X7_site_71, ft_X7_site_72, ft_X7_site_73, ft_X7_site_76, ft_X7_site_79, ft_X7_site_80, ft_X7_site_81, ft_X7_site_82, ft_X7_site_83, ft_X7_site_86, ft_X7_site_89, ft_X7_site_90, ft_X7_site_93, ft_X7_site_94, ft_X7_site_95, ft_X7_site_98, ft_X7_site_99, ft_X7_site_100, ft_X7_site_101, ft_X7_site_102, ft_X7_site_105, ft_X7_site_106, ft_X7_site_107, ft_X7_site_110, ft_X7_site_111, ft_X7_site_112, ft_X7_site_113, ft_X7_site_114, ft_X7_site_117, ft_X7_site_118, ft_X7_site_119, ft_X7_site_122, ft_X7_site_123, ft_X7_site_124, ft_X7_site_125, ft_X7_site_126, ft_X7_site_129, ft_X7_site_130, ft_X7_site_131, ft_X7_site_134, ft_X7_site_135, ft_X7_site_136, ft_X7_site_137, ft_X7_site_138, ft_X7_site_141, ft_X7_site_143, ft_X7_site_144, ft_X7_site_145, ft_X7_site_146, ft_X7_site_149, ft_X7_site_150, ft_X7_site_151, ft_X7_site_152, ft_X7_site_155, ft_X7_site_158, ft_X7_site_159, ft_X7_site_160, ft_X7_site_163, ft_X7_site_164, ft_X7_site_167, ft_X7_site_168, ft_X7_site_169, ft_X7_site_170, ft_X7_site_171, ft_X7_site_174, ft_X7_site_175, ft_X7_site_176, ft_X7_site_177, ft_X7_site_178, ft_X7_site_181, fl_71_4, fl_71_2, fl_71_16, fp_71_13, as_82, e71, eK, eP, hq, v0, v1, show (0 : Int32).toNatClampNeg = 0 from rfl, show (1 : Int32).toNatClampNeg = 1 from rfl, hrow_hrow, upd_ne (show 2 ≠ 13 by decide)]
    refine h _ (fun a g1 g2 g3 => ?_) ?_ ⟨?_, ?_⟩ (fun c => ?_) fun i => ?_
    · rw [hrow_n g2, hrow_n g1]; exact h1 a g3
    · rw [hrow_n (by decide), hrow_s]
    · rw [hrow_s, upd_ne (by decide), upd_eq]
    · rw [hrow_s, upd_eq]
    · rw [hrow_n (show 74 ≠ 82 by decide), hrow_n (show 74 ≠ 71 by decide), hrow_n (show 75 ≠ 82 by decide), hrow_n (show 75 ≠ 71 by decide), hrow_n (show 76 ≠ 82 by decide), hrow_n (show 76 ≠ 71 by decide), hrow_n (show 77 ≠ 82 by decide), hrow_n (show 77 ≠ 71 by decide)]
      exact h2 c
    · rw [hrow_n (show 78 ≠ 82 by decide), hrow_n (show 78 ≠ 71 by decide)]
      exact h3 i
  | succ k ih =>
    intro j hj C' h1 h2 h3
    have hq : (nI K ≤ nI j) = False := eq_false (nI_ge (by omega) (by omega))
    have e71 := h1 71 (by omega)
    have v1 : vp_in (nI j) 6 := vp_in_nI (by omega) (by decide)
    have f90 := h1 90 (by omega)
    have f91 := h1 91 (by omega)
    have f92 := h1 92 (by omega)
    have f93 := h1 93 (by omega)
    refine jrun_first OK_X7_site (C := [53, 81]) 80 ?_
    simp -implicitDefEqProofs only [jr_0, jr_1, jr_2, j_iconst, j_lconst, j_iload0, j_aload0, j_istore0, j_astore0, j_iinc0, j_iload1, j_aload1, j_istore1, j_astore1, j_iinc1, j_iload2, j_aload2, j_istore2, j_astore2, j_iinc2, j_iload3, j_aload3, j_istore3, j_astore3, j_iinc3, j_iload4, j_aload4, j_istore4, j_astore4, j_iinc4, j_iload5, j_aload5, j_istore5, j_astore5, j_iinc5, j_iload6, j_aload6, j_istore6, j_astore6, j_iinc6, j_iload7, j_aload7, j_istore7, j_astore7, j_iinc7, j_iload8, j_aload8, j_istore8, j_astore8, j_iinc8, j_iadd, j_isub, j_imul, j_iand, j_ior, j_ixor, j_ishl, j_ishr, j_iushr, j_idiv, j_irem, j_ineg, j_ladd, j_lmul, j_land, j_lor, j_lcmp, j_lushr, j_lshl, j_i2l, j_l2i, j_dupI, j_dupR, j_popI, j_dup2, j_ifeq, j_iceq, j_ifne, j_icne, j_iflt, j_iclt, j_ifge, j_icge, j_ifgt, j_icgt, j_ifle, j_icle, j_goto, j_tsw, j_sw0, j_sw1, j_ireturn, j_zreturn, j_lreturn, j_return, j_getfield, j_putI, j_putJ, j_putR, j_iaload, j_baload, j_iastore, j_bastore, j_aaload, j_q, j_aastore, j_acopy, j_mmin, j_mmax, j_mabs, j_objinit, j_new, j_newI, j_newQ, j_sld, j_slen, j_callV0, j_callI0, j_callS0, j_callV1, j_callI1, j_callS1, j_callV2, j_callI2, j_callS2, j_callV3, j_callS3, j_callV4, j_callS4, j_callV5, j_callS5, j_pushS, j_pushN, j_sh0, j_sh1, j_sh2, j_sh3, j_sh4, Int32.reduceAdd, Int32.reduceMul, Int32.reduceSub, Int32.reduceLT, Int32.reduceLE, eq_self, i32_10, i32_01, ne_eq, hrow_s, hrow_n, ne10, ne100, ne1000, ne7, ne4, ne14, ne9973, or_true, true_or, or_false, false_or, not_true_eq_false, not_false_eq_true, false_implies, implies_true, and_true, forall_const, true_implies, jargs_n, jargs_r, jargs_i, List.cons_append, List.nil_append, true_and, Nat.reduceEqDiff, reduceIte, ft_X7_site_0, ft_X7_site_1, ft_X7_site_4, ft_X7_site_6, ft_X7_site_9, ft_X7_site_11, ft_X7_site_12, ft_X7_site_13, ft_X7_site_16, ft_X7_site_17, ft_X7_site_18, ft_X7_site_21, ft_X7_site_24, ft_X7_site_25, ft_X7_site_26, ft_X7_site_29, ft_X7_site_32, ft_X7_site_33, ft_X7_site_34, ft_X7_site_37, ft_X7_site_40, ft_X7_site_41, ft_X7_site_44, ft_X7_site_46, ft_X7_site_47, ft_X7_site_50, ft_X7_site_51, ft_X7_site_52, ft_X7_site_53, ft_X7_site_54, ft_X7_site_55, ft_X7_site_58, ft_X7_site_61, ft_X7_site_62, ft_X7_site_65, ft_X7_site_66, ft_X7_site_67, ft_X7_site_70, ft_X7_site_71, ft_X7_site_72, ft_X7_site_73, ft_X7_site_76, ft_X7_site_79, ft_X7_site_80, ft_X7_site_81, ft_X7_site_82, ft_X7_site_83, ft_X7_site_86, ft_X7_site_89, ft_X7_site_90, ft_X7_site_93, ft_X7_site_94, ft_X7_site_95, ft_X7_site_98, ft_X7_site_99, ft_X7_site_100, ft_X7_site_101, ft_X7_site_102, ft_X7_site_105, ft_X7_site_106, ft_X7_site_107, ft_X7_site_110, ft_X7_site_111, ft_X7_site_112, ft_X7_site_113, ft_X7_site_114, ft_X7_site_117, ft_X7_site_118, ft_X7_site_119, ft_X7_site_122, ft_X7_site_123, ft_X7_site_124, ft_X7_site_125, ft_X7_site_126, ft_X7_site_129, ft_X7_site_130, ft_X7_site_131, ft_X7_site_134, ft_X7_site_135, ft_X7_site_136, ft_X7_site_137, ft_X7_site_138, ft_X7_site_141, ft_X7_site_143, ft_X7_site_144, ft_X7_site_145, ft_X7_site_146, ft_X7_site_149, ft_X7_site_150, ft_X7_site_151, ft_X7_site_152, ft_X7_site_155, ft_X7_site_158, ft_X7_site_159, ft_X7_site_160, ft_X7_site_163, ft_X7_site_164, ft_X7_site_167, ft_X7_site_168, ft_X7_site_169, ft_X7_site_170, ft_X7_site_171, ft_X7_site_174, ft_X7_site_175, ft_X7_site_176, ft_X7_site_177, ft_X7_site_178, ft_X7_site_181, fl_71_4, fl_71_5, fl_71_6, fl_71_7, fl_71_8, fl_71_10, fl_71_33, fl_71_34, fl_71_35, fl_71_36, e71, eK, hq, al_90, al_91, al_92, al_93, as_74, as_75, as_76, as_77, al_74, aw_32 jmr78 (show j < 6 by omega), v1, nI_clamp (show j < 2 ^ 31 by omega), f90, f91, f92, f93, e90, e91, e92, e93, upd_eq, nI_1]
    refine ih (j + 1) (by omega) _ (fun a g => ?_) (fun c => ?_) fun i => ?_
    · rw [hrow_n (by omega), hrow_n (by omega), hrow_n (by omega), hrow_n (by omega), hrow_n (by omega)]
      exact h1 a g
    · have q := h2 c
      have x : ∀ (f g : Nat → Int32), f c = (if c < j then g c else M 74 c) → upd f j (g j) c = if c < j + 1 then g c else M 74 c := fun f g q => by
        by_cases e : c = j
        · subst e; rw [upd_eq, if_pos (by omega)]
        · rw [upd_ne e, q]
          by_cases w : c < j
          · rw [if_pos w, if_pos (by omega)]
          · rw [if_neg w, if_neg (by omega)]
      have x5 : ∀ (f g : Nat → Int32) (y : Int32), f c = (if c < j then g c else y) → upd f j (g j) c = if c < j + 1 then g c else y := fun f g y q => by
        by_cases e : c = j
        · subst e; rw [upd_eq, if_pos (by omega)]
        · rw [upd_ne e, q]
          by_cases w : c < j
          · rw [if_pos w, if_pos (by omega)]
          · rw [if_neg w, if_neg (by omega)]
      refine ⟨?_, ?_, ?_, ?_⟩
      · simp only [hrow_n (show 74 ≠ 78 by decide), hrow_n (show 74 ≠ 77 by decide), hrow_n (show 74 ≠ 76 by decide), hrow_n (show 74 ≠ 75 by decide), hrow_s]
        exact x5 _ _ _ q.1
      · simp only [hrow_n (show 75 ≠ 78 by decide), hrow_n (show 75 ≠ 77 by decide), hrow_n (show 75 ≠ 76 by decide), hrow_n (show 75 ≠ 74 by decide), hrow_s]
        exact x5 _ _ _ q.2.1
      · simp only [hrow_n (show 76 ≠ 78 by decide), hrow_n (show 76 ≠ 77 by decide), hrow_n (show 76 ≠ 75 by decide), hrow_n (show 76 ≠ 74 by decide), hrow_s]
        exact x5 _ _ _ q.2.2.1
      · simp only [hrow_n (show 77 ≠ 78 by decide), hrow_n (show 77 ≠ 76 by decide), hrow_n (show 77 ≠ 75 by decide), hrow_n (show 77 ≠ 74 by decide), hrow_s]
        exact x5 _ _ _ q.2.2.2
    · simp only [hrow_n (show 78 ≠ 77 by decide), hrow_n (show 78 ≠ 76 by decide), hrow_n (show 78 ≠ 75 by decide), hrow_n (show 78 ≠ 74 by decide), hrow_s]
      by_cases e : i = 32 + j
      · subst e
        rw [upd_eq, if_pos (by omega), show 32 + j - 32 = j by omega]
      · rw [upd_ne e, h3 i]
        by_cases w : 32 ≤ i ∧ i < 32 + j
        · rw [if_pos w, if_pos (by omega)]
        · rw [if_neg w, if_neg (by omega)]
theorem lp_X7_site1 {Q : jQ} {M : Nat → Nat → Int32} {z : Nat → Int64} {nb P : Nat} {A : Nat → Int32} (hP : P ≤ 4) (eP : M 71 2 = nI P) (eA : M 89 = A) (h : ∀ f : Nat → Int32, (∀ p, f p = if p < P then A p else M 73 p) → Rn Y_X7_site none Q 81 [some (.ref 71), some (.int (nI 0))] [] (memS 94 (hrow M 73 f) z) (nb, 0, 0)) :
    ∀ k j, j + k = P → ∀ f : Nat → Int32, (∀ p, f p = if p < j then A p else M 73 p) → Rn Y_X7_site none Q 53 [some (.ref 71), some (.int (nI j))] [] (memS 94 (hrow M 73 f) z) (nb, 0, 0) := by
  intro k
  induction k with
  | zero =>
    intro j hj f hf
    have hjn : j = P := by omega
    subst hjn
    have hq : (nI j ≤ nI j) = True := eq_true (nI_le (by omega) (by omega))
    refine jrun_first OK_X7_site (C := [53, 81]) 60 ?_
    simp -implicitDefEqProofs only [jr_0, jr_1, jr_2, j_iconst, j_lconst, j_iload0, j_aload0, j_istore0, j_astore0, j_iinc0, j_iload1, j_aload1, j_istore1, j_astore1, j_iinc1, j_iload2, j_aload2, j_istore2, j_astore2, j_iinc2, j_iload3, j_aload3, j_istore3, j_astore3, j_iinc3, j_iload4, j_aload4, j_istore4, j_astore4, j_iinc4, j_iload5, j_aload5, j_istore5, j_astore5, j_iinc5, j_iload6, j_aload6, j_istore6, j_astore6, j_iinc6, j_iload7, j_aload7, j_istore7, j_astore7, j_iinc7, j_iload8, j_aload8, j_istore8, j_astore8, j_iinc8, j_iadd, j_isub, j_imul, j_iand, j_ior, j_ixor, j_ishl, j_ishr, j_iushr, j_idiv, j_irem, j_ineg, j_ladd, j_lmul, j_land, j_lor, j_lcmp, j_lushr, j_lshl, j_i2l, j_l2i, j_dupI, j_dupR, j_popI, j_dup2, j_ifeq, j_iceq, j_ifne, j_icne, j_iflt, j_iclt, j_ifge, j_icge, j_ifgt, j_icgt, j_ifle, j_icle, j_goto, j_tsw, j_sw0, j_sw1, j_ireturn, j_zreturn, j_lreturn, j_return, j_getfield, j_putI, j_putJ, j_putR, j_iaload, j_baload, j_iastore, j_bastore, j_aaload, j_q, j_aastore, j_acopy, j_mmin, j_mmax, j_mabs, j_objinit, j_new, j_newI, j_newQ, j_sld, j_slen, j_callV0, j_callI0, j_callS0, j_callV1, j_callI1, j_callS1, j_callV2, j_callI2, j_callS2, j_callV3, j_callS3, j_callV4, j_callS4, j_callV5, j_callS5, j_pushS, j_pushN, j_sh0, j_sh1, j_sh2, j_sh3, j_sh4, Int32.reduceAdd, Int32.reduceMul, Int32.reduceSub, Int32.reduceLT, Int32.reduceLE, eq_self, i32_10, i32_01, ne_eq, hrow_s, hrow_n, ne10, ne100, ne1000, ne7, ne4, ne14, ne9973, or_true, true_or, or_false, false_or, not_true_eq_false, not_false_eq_true, false_implies, implies_true, and_true, forall_const, true_implies, jargs_n, jargs_r, jargs_i, List.cons_append, List.nil_append, true_and, Nat.reduceEqDiff, reduceIte, ft_X7_site_0, ft_X7_site_1, ft_X7_site_4, ft_X7_site_6, ft_X7_site_9, ft_X7_site_11, ft_X7_site_12, ft_X7_site_13, ft_X7_site_16, ft_X7_site_17, ft_X7_site_18, ft_X7_site_21, ft_X7_site_24, ft_X7_site_25, ft_X7_site_26, ft_X7_site_29, ft_X7_site_32, ft_X7_site_33, ft_X7_site_34, ft_X7_site_37, ft_X7_site_40, ft_X7_site_41, ft_X7_site_44, ft_X7_site_46, ft_X7_site_47, ft_X7_site_50, ft_X7_site_51, ft_X7_site_52, ft_X7_site_53, ft_X7_site_54, ft_X7_site_55, ft_X7_site_58, ft_X7_site_61, ft_X7_site_62, ft_X7_site_65, ft_X7_site_66, ft_X7_site_67, ft_X7_site_70, ft_X7_site_71, ft_X7_site_72, ft_X7_site_73, ft_X7_site_76, ft_X7_site_79, ft_X7_site_80, ft_X7_site_81, ft_X7_site_82, ft_X7_site_83, ft_X7_site_86, ft_X7_site_89, ft_X7_site_90, ft_X7_site_93, ft_X7_site_94, ft_X7_site_95, ft_X7_site_98, ft_X7_site_99, ft_X7_site_100, ft_X7_site_101, ft_X7_site_102, ft_X7_site_105, ft_X7_site_106, ft_X7_site_107, ft_X7_site_110, ft_X7_site_111, ft_X7_site_112, ft_X7_site_113, ft_X7_site_114, ft_X7_site_117, ft_X7_site_118, ft_X7_site_119, ft_X7_site_122, ft_X7_site_123, ft_X7_site_124, ft_X7_site_125, ft_X7_site_126, ft_X7_site_129, ft_X7_site_130, ft_X7_site_131, ft_X7_site_134, ft_X7_site_135, ft_X7_site_136, ft_X7_site_137, ft_X7_site_138, ft_X7_site_141, ft_X7_site_143, ft_X7_site_144, ft_X7_site_145, ft_X7_site_146, ft_X7_site_149, ft_X7_site_150, ft_X7_site_151, ft_X7_site_152, ft_X7_site_155, ft_X7_site_158, ft_X7_site_159, ft_X7_site_160, ft_X7_site_163, ft_X7_site_164, ft_X7_site_167, ft_X7_site_168, ft_X7_site_169, ft_X7_site_170, ft_X7_site_171, ft_X7_site_174, ft_X7_site_175, ft_X7_site_176, ft_X7_site_177, ft_X7_site_178, ft_X7_site_181, fl_71_2, eP, hq]
    exact h f hf
  | succ k ih =>
    intro j hj f hf
    have hq : (nI P ≤ nI j) = False := eq_false (nI_ge (by omega) (by omega))
    have v1 : vp_in (nI j) 4 := vp_in_nI (by omega) (by decide)
    refine jrun_first OK_X7_site (C := [53, 81]) 60 ?_
    simp -implicitDefEqProofs only [jr_0, jr_1, jr_2, j_iconst, j_lconst, j_iload0, j_aload0, j_istore0, j_astore0, j_iinc0, j_iload1, j_aload1, j_istore1, j_astore1, j_iinc1, j_iload2, j_aload2, j_istore2, j_astore2, j_iinc2, j_iload3, j_aload3, j_istore3, j_astore3, j_iinc3, j_iload4, j_aload4, j_istore4, j_astore4, j_iinc4, j_iload5, j_aload5, j_istore5, j_astore5, j_iinc5, j_iload6, j_aload6, j_istore6, j_astore6, j_iinc6, j_iload7, j_aload7, j_istore7, j_astore7, j_iinc7, j_iload8, j_aload8, j_istore8, j_astore8, j_iinc8, j_iadd, j_isub, j_imul, j_iand, j_ior, j_ixor, j_ishl, j_ishr, j_iushr, j_idiv, j_irem, j_ineg, j_ladd, j_lmul, j_land, j_lor, j_lcmp, j_lushr, j_lshl, j_i2l, j_l2i, j_dupI, j_dupR, j_popI, j_dup2, j_ifeq, j_iceq, j_ifne, j_icne, j_iflt, j_iclt, j_ifge, j_icge, j_ifgt, j_icgt, j_ifle, j_icle, j_goto, j_tsw, j_sw0, j_sw1, j_ireturn, j_zreturn, j_lreturn, j_return, j_getfield, j_putI, j_putJ, j_putR, j_iaload, j_baload, j_iastore, j_bastore, j_aaload, j_q, j_aastore, j_acopy, j_mmin, j_mmax, j_mabs, j_objinit, j_new, j_newI, j_newQ, j_sld, j_slen, j_callV0, j_callI0, j_callS0, j_callV1, j_callI1, j_callS1, j_callV2, j_callI2, j_callS2, j_callV3, j_callS3, j_callV4, j_callS4, j_callV5, j_callS5, j_pushS, j_pushN, j_sh0, j_sh1, j_sh2, j_sh3, j_sh4, Int32.reduceAdd, Int32.reduceMul, Int32.reduceSub, Int32.reduceLT, Int32.reduceLE, eq_self, i32_10, i32_01, ne_eq, hrow_s, hrow_n, ne10, ne100, ne1000, ne7, ne4, ne14, ne9973, or_true, true_or, or_false, false_or, not_true_eq_false, not_false_eq_true, false_implies, implies_true, and_true, forall_const, true_implies, jargs_n, jargs_r, jargs_i, List.cons_append, List.nil_append, true_and, Nat.reduceEqDiff, reduceIte, ft_X7_site_0, ft_X7_site_1, ft_X7_site_4, ft_X7_site_6, ft_X7_site_9, ft_X7_site_11, ft_X7_site_12, ft_X7_site_13, ft_X7_site_16, ft_X7_site_17, ft_X7_site_18, ft_X7_site_21, ft_X7_site_24, ft_X7_site_25, ft_X7_site_26, ft_X7_site_29, ft_X7_site_32, ft_X7_site_33, ft_X7_site_34, ft_X7_site_37, ft_X7_site_40, ft_X7_site_41, ft_X7_site_44, ft_X7_site_46, ft_X7_site_47, ft_X7_site_50, ft_X7_site_51, ft_X7_site_52, ft_X7_site_53, ft_X7_site_54, ft_X7_site_55, ft_X7_site_58, ft_X7_site_61, ft_X7_site_62, ft_X7_site_65, ft_X7_site_66, ft_X7_site_67, ft_X7_site_70, ft_X7_site_71, ft_X7_site_72, ft_X7_site_73, ft_X7_site_76, ft_X7_site_79, ft_X7_site_80, ft_X7_site_81, ft_X7_site_82, ft_X7_site_83, ft_X7_site_86, ft_X7_site_89, ft_X7_site_90, ft_X7_site_93, ft_X7_site_94, ft_X7_site_95, ft_X7_site_98, ft_X7_site_99, ft_X7_site_100, ft_X7_site_101, ft_X7_site_102, ft_X7_site_105, ft_X7_site_106, ft_X7_site_107, ft_X7_site_110, ft_X7_site_111, ft_X7_site_112, ft_X7_site_113, ft_X7_site_114, ft_X7_site_117, ft_X7_site_118, ft_X7_site_119, ft_X7_site_122, ft_X7_site_123, ft_X7_site_124, ft_X7_site_125, ft_X7_site_126, ft_X7_site_129, ft_X7_site_130, ft_X7_site_131, ft_X7_site_134, ft_X7_site_135, ft_X7_site_136, ft_X7_site_137, ft_X7_site_138, ft_X7_site_141, ft_X7_site_143, ft_X7_site_144, ft_X7_site_145, ft_X7_site_146, ft_X7_site_149, ft_X7_site_150, ft_X7_site_151, ft_X7_site_152, ft_X7_site_155, ft_X7_site_158, ft_X7_site_159, ft_X7_site_160, ft_X7_site_163, ft_X7_site_164, ft_X7_site_167, ft_X7_site_168, ft_X7_site_169, ft_X7_site_170, ft_X7_site_171, ft_X7_site_174, ft_X7_site_175, ft_X7_site_176, ft_X7_site_177, ft_X7_site_178, ft_X7_site_181, fl_71_2, fl_71_3, fl_71_31, eP, hq, al_89, as_73, v1, nI_clamp (show j < 2 ^ 31 by omega), eA, nI_1, hrow_hrow]
    refine ih (j + 1) (by omega) _ fun p => ?_
    by_cases e : p = j
    · subst e; rw [upd_eq, if_pos (by omega)]
    · rw [upd_ne e, hf p]
      by_cases w : p < j
      · rw [if_pos w, if_pos (by omega)]
      · rw [if_neg w, if_neg (by omega)]
theorem ok_X7_site : jMeets Y_X7_site S_X7_site := by
  intro nb vs mem Q h
  obtain ⟨C, z, n, A0, T0, rfl, rfl, t, ⟨c12, c79, c78⟩, hn, hy⟩ := h
  refine Ok.run OK_X7_site [53, 81] 80 [none] pn7 (Nat.le_of_ble_eq_true rfl) rfl ?_
  simp -implicitDefEqProofs only [jr_0, jr_1, jr_2, j_iconst, j_lconst, j_iload0, j_aload0, j_istore0, j_astore0, j_iinc0, j_iload1, j_aload1, j_istore1, j_astore1, j_iinc1, j_iload2, j_aload2, j_istore2, j_astore2, j_iinc2, j_iload3, j_aload3, j_istore3, j_astore3, j_iinc3, j_iload4, j_aload4, j_istore4, j_astore4, j_iinc4, j_iload5, j_aload5, j_istore5, j_astore5, j_iinc5, j_iload6, j_aload6, j_istore6, j_astore6, j_iinc6, j_iload7, j_aload7, j_istore7, j_astore7, j_iinc7, j_iload8, j_aload8, j_istore8, j_astore8, j_iinc8, j_iadd, j_isub, j_imul, j_iand, j_ior, j_ixor, j_ishl, j_ishr, j_iushr, j_idiv, j_irem, j_ineg, j_ladd, j_lmul, j_land, j_lor, j_lcmp, j_lushr, j_lshl, j_i2l, j_l2i, j_dupI, j_dupR, j_popI, j_dup2, j_ifeq, j_iceq, j_ifne, j_icne, j_iflt, j_iclt, j_ifge, j_icge, j_ifgt, j_icgt, j_ifle, j_icle, j_goto, j_tsw, j_sw0, j_sw1, j_ireturn, j_zreturn, j_lreturn, j_return, j_getfield, j_putI, j_putJ, j_putR, j_iaload, j_baload, j_iastore, j_bastore, j_aaload, j_q, j_aastore, j_acopy, j_mmin, j_mmax, j_mabs, j_objinit, j_new, j_newI, j_newQ, j_sld, j_slen, j_callV0, j_callI0, j_callS0, j_callV1, j_callI1, j_callS1, j_callV2, j_callI2, j_callS2, j_callV3, j_callS3, j_callV4, j_callS4, j_callV5, j_callS5, j_pushS, j_pushN, j_sh0, j_sh1, j_sh2, j_sh3, j_sh4, Int32.reduceAdd, Int32.reduceMul, Int32.reduceSub, Int32.reduceLT, Int32.reduceLE, eq_self, i32_10, i32_01, ne_eq, hrow_s, hrow_n, ne10, ne100, ne1000, ne7, ne4, ne14, ne9973, or_true, true_or, or_false, false_or, not_true_eq_false, not_false_eq_true, false_implies, implies_true, and_true, forall_const, true_implies, jargs_n, jargs_r, jargs_i, List.cons_append, List.nil_append, true_and, Nat.reduceEqDiff, reduceIte, ft_X7_site_0, ft_X7_site_1, ft_X7_site_4, ft_X7_site_6, ft_X7_site_9, ft_X7_site_11, ft_X7_site_12, ft_X7_site_13, ft_X7_site_16, ft_X7_site_17, ft_X7_site_18, ft_X7_site_21, ft_X7_site_24, ft_X7_site_25, ft_X7_site_26, ft_X7_site_29, ft_X7_site_32, ft_X7_site_33, ft_X7_site_34, ft_X7_site_37, ft_X7_site_40, ft_X7_site_41, ft_X7_site_44, ft_X7_site_46, ft_X7_site_47, ft_X7_site_50, ft_X7_site_51, ft_X7_site_52, ft_X7_site_53, ft_X7_site_54, ft_X7_site_55, ft_X7_site_58, ft_X7_site_61, ft_X7_site_62, ft_X7_site_65, ft_X7_site_66, ft_X7_site_67, ft_X7_site_70, ft_X7_site_71, ft_X7_site_72, ft_X7_site_73, ft_X7_site_76, ft_X7_site_79, ft_X7_site_80, ft_X7_site_81, ft_X7_site_82, ft_X7_site_83, ft_X7_site_86, ft_X7_site_89, ft_X7_site_90, ft_X7_site_93, ft_X7_site_94, ft_X7_site_95, ft_X7_site_98, ft_X7_site_99, ft_X7_site_100, ft_X7_site_101, ft_X7_site_102, ft_X7_site_105, ft_X7_site_106, ft_X7_site_107, ft_X7_site_110, ft_X7_site_111, ft_X7_site_112, ft_X7_site_113, ft_X7_site_114, ft_X7_site_117, ft_X7_site_118, ft_X7_site_119, ft_X7_site_122, ft_X7_site_123, ft_X7_site_124, ft_X7_site_125, ft_X7_site_126, ft_X7_site_129, ft_X7_site_130, ft_X7_site_131, ft_X7_site_134, ft_X7_site_135, ft_X7_site_136, ft_X7_site_137, ft_X7_site_138, ft_X7_site_141, ft_X7_site_143, ft_X7_site_144, ft_X7_site_145, ft_X7_site_146, ft_X7_site_149, ft_X7_site_150, ft_X7_site_151, ft_X7_site_152, ft_X7_site_155, ft_X7_site_158, ft_X7_site_159, ft_X7_site_160, ft_X7_site_163, ft_X7_site_164, ft_X7_site_167, ft_X7_site_168, ft_X7_site_169, ft_X7_site_170, ft_X7_site_171, ft_X7_site_174, ft_X7_site_175, ft_X7_site_176, ft_X7_site_177, ft_X7_site_178, ft_X7_site_181, rc_71]
  refine s_X7_readText A0 T0 (Ev.rf c12 c79) t fun C2 w hw v hg => ?_
  by_cases h9 : w = -9
  · obtain ⟨good, lim⟩ := hg h9
    rw [← hw] at hy
    have hy := hy h9
    simp -implicitDefEqProofs only [jr_0, jr_1, jr_2, j_iconst, j_lconst, j_iload0, j_aload0, j_istore0, j_astore0, j_iinc0, j_iload1, j_aload1, j_istore1, j_astore1, j_iinc1, j_iload2, j_aload2, j_istore2, j_astore2, j_iinc2, j_iload3, j_aload3, j_istore3, j_astore3, j_iinc3, j_iload4, j_aload4, j_istore4, j_astore4, j_iinc4, j_iload5, j_aload5, j_istore5, j_astore5, j_iinc5, j_iload6, j_aload6, j_istore6, j_astore6, j_iinc6, j_iload7, j_aload7, j_istore7, j_astore7, j_iinc7, j_iload8, j_aload8, j_istore8, j_astore8, j_iinc8, j_iadd, j_isub, j_imul, j_iand, j_ior, j_ixor, j_ishl, j_ishr, j_iushr, j_idiv, j_irem, j_ineg, j_ladd, j_lmul, j_land, j_lor, j_lcmp, j_lushr, j_lshl, j_i2l, j_l2i, j_dupI, j_dupR, j_popI, j_dup2, j_ifeq, j_iceq, j_ifne, j_icne, j_iflt, j_iclt, j_ifge, j_icge, j_ifgt, j_icgt, j_ifle, j_icle, j_goto, j_tsw, j_sw0, j_sw1, j_ireturn, j_zreturn, j_lreturn, j_return, j_getfield, j_putI, j_putJ, j_putR, j_iaload, j_baload, j_iastore, j_bastore, j_aaload, j_q, j_aastore, j_acopy, j_mmin, j_mmax, j_mabs, j_objinit, j_new, j_newI, j_newQ, j_sld, j_slen, j_callV0, j_callI0, j_callS0, j_callV1, j_callI1, j_callS1, j_callV2, j_callI2, j_callS2, j_callV3, j_callS3, j_callV4, j_callS4, j_callV5, j_callS5, j_pushS, j_pushN, j_sh0, j_sh1, j_sh2, j_sh3, j_sh4, Int32.reduceAdd, Int32.reduceMul, Int32.reduceSub, Int32.reduceLT, Int32.reduceLE, eq_self, i32_10, i32_01, ne_eq, hrow_s, hrow_n, ne10, ne100, ne1000, ne7, ne4, ne14, ne9973, or_true, true_or, or_false, false_or, not_true_eq_false, not_false_eq_true, false_implies, implies_true, and_true, forall_const, true_implies, jargs_n, jargs_r, jargs_i, List.cons_append, List.nil_append, true_and, Nat.reduceEqDiff, reduceIte, ft_X7_site_0, ft_X7_site_1, ft_X7_site_4, ft_X7_site_6, ft_X7_site_9, ft_X7_site_11, ft_X7_site_12, ft_X7_site_13, ft_X7_site_16, ft_X7_site_17, ft_X7_site_18, ft_X7_site_21, ft_X7_site_24, ft_X7_site_25, ft_X7_site_26, ft_X7_site_29, ft_X7_site_32, ft_X7_site_33, ft_X7_site_34, ft_X7_site_37, ft_X7_site_40, ft_X7_site_41, ft_X7_site_44, ft_X7_site_46, ft_X7_site_47, ft_X7_site_50, ft_X7_site_51, ft_X7_site_52, ft_X7_site_53, ft_X7_site_54, ft_X7_site_55, ft_X7_site_58, ft_X7_site_61, ft_X7_site_62, ft_X7_site_65, ft_X7_site_66, ft_X7_site_67, ft_X7_site_70, ft_X7_site_71, ft_X7_site_72, ft_X7_site_73, ft_X7_site_76, ft_X7_site_79, ft_X7_site_80, ft_X7_site_81, ft_X7_site_82, ft_X7_site_83, ft_X7_site_86, ft_X7_site_89, ft_X7_site_90, ft_X7_site_93, ft_X7_site_94, ft_X7_site_95, ft_X7_site_98, ft_X7_site_99, ft_X7_site_100, ft_X7_site_101, ft_X7_site_102, ft_X7_site_105, ft_X7_site_106, ft_X7_site_107, ft_X7_site_110, ft_X7_site_111, ft_X7_site_112, ft_X7_site_113, ft_X7_site_114, ft_X7_site_117, ft_X7_site_118, ft_X7_site_119, ft_X7_site_122, ft_X7_site_123, ft_X7_site_124, ft_X7_site_125, ft_X7_site_126, ft_X7_site_129, ft_X7_site_130, ft_X7_site_131, ft_X7_site_134, ft_X7_site_135, ft_X7_site_136, ft_X7_site_137, ft_X7_site_138, ft_X7_site_141, ft_X7_site_143, ft_X7_site_144, ft_X7_site_145, ft_X7_site_146, ft_X7_site_149, ft_X7_site_150, ft_X7_site_151, ft_X7_site_152, ft_X7_site_155, ft_X7_site_158, ft_X7_site_159, ft_X7_site_160, ft_X7_site_163, ft_X7_site_164, ft_X7_site_167, ft_X7_site_168, ft_X7_site_169, ft_X7_site_170, ft_X7_site_171, ft_X7_site_174, ft_X7_site_175, ft_X7_site_176, ft_X7_site_177, ft_X7_site_178, ft_X7_site_181, h9, rc_71]
    generalize bdF (C 2) n 10 4 ((0, 0), A0, T0) = s at good hy
    generalize 10 * dF (C 2) n 1 + dF (C 2) n 2 = li at good hy lim
    generalize dF (C 2) n 3 = pa at good hy
    obtain ⟨pl, A, N, M1, R, D, ⟨v, ⟨p1, p2⟩, ⟨p3, p4⟩, ⟨p5, p6, p7, p8, p9⟩, p10, p11⟩, gA, gC, ok⟩ := good
    have hP4 := ok.1.h4
    have hK6 := ok.1.h6
    refine s_X7_fresh (by rw [v.row 78 rfl]; exact c78) ?_
    have u1 : ∀ x, upd (C2 71) 2 x 32 = C2 71 32 := fun x => upd_ne (by decide)
    have u2 : ∀ x y, upd (upd (C2 71) 2 x) 4 y 29 = C2 71 29 := fun x y => by rw [upd_ne (by decide), upd_ne (by decide)]
    have u3 : ∀ x y z, upd (upd (upd (C2 71) 2 x) 4 y) 9 z 28 = C2 71 28 := fun x y z => by rw [upd_ne (by decide), upd_ne (by decide), upd_ne (by decide)]
    simp -implicitDefEqProofs only [jr_0, jr_1, jr_2, j_iconst, j_lconst, j_iload0, j_aload0, j_istore0, j_astore0, j_iinc0, j_iload1, j_aload1, j_istore1, j_astore1, j_iinc1, j_iload2, j_aload2, j_istore2, j_astore2, j_iinc2, j_iload3, j_aload3, j_istore3, j_astore3, j_iinc3, j_iload4, j_aload4, j_istore4, j_astore4, j_iinc4, j_iload5, j_aload5, j_istore5, j_astore5, j_iinc5, j_iload6, j_aload6, j_istore6, j_astore6, j_iinc6, j_iload7, j_aload7, j_istore7, j_astore7, j_iinc7, j_iload8, j_aload8, j_istore8, j_astore8, j_iinc8, j_iadd, j_isub, j_imul, j_iand, j_ior, j_ixor, j_ishl, j_ishr, j_iushr, j_idiv, j_irem, j_ineg, j_ladd, j_lmul, j_land, j_lor, j_lcmp, j_lushr, j_lshl, j_i2l, j_l2i, j_dupI, j_dupR, j_popI, j_dup2, j_ifeq, j_iceq, j_ifne, j_icne, j_iflt, j_iclt, j_ifge, j_icge, j_ifgt, j_icgt, j_ifle, j_icle, j_goto, j_tsw, j_sw0, j_sw1, j_ireturn, j_zreturn, j_lreturn, j_return, j_getfield, j_putI, j_putJ, j_putR, j_iaload, j_baload, j_iastore, j_bastore, j_aaload, j_q, j_aastore, j_acopy, j_mmin, j_mmax, j_mabs, j_objinit, j_new, j_newI, j_newQ, j_sld, j_slen, j_callV0, j_callI0, j_callS0, j_callV1, j_callI1, j_callS1, j_callV2, j_callI2, j_callS2, j_callV3, j_callS3, j_callV4, j_callS4, j_callV5, j_callS5, j_pushS, j_pushN, j_sh0, j_sh1, j_sh2, j_sh3, j_sh4, Int32.reduceAdd, Int32.reduceMul, Int32.reduceSub, Int32.reduceLT, Int32.reduceLE, eq_self, i32_10, i32_01, ne_eq, hrow_s, hrow_n, ne10, ne100, ne1000, ne7, ne4, ne14, ne9973, or_true, true_or, or_false, false_or, not_true_eq_false, not_false_eq_true, false_implies, implies_true, and_true, forall_const, true_implies, jargs_n, jargs_r, jargs_i, List.cons_append, List.nil_append, true_and, Nat.reduceEqDiff, reduceIte, ft_X7_site_0, ft_X7_site_1, ft_X7_site_4, ft_X7_site_6, ft_X7_site_9, ft_X7_site_11, ft_X7_site_12, ft_X7_site_13, ft_X7_site_16, ft_X7_site_17, ft_X7_site_18, ft_X7_site_21, ft_X7_site_24, ft_X7_site_25, ft_X7_site_26, ft_X7_site_29, ft_X7_site_32, ft_X7_site_33, ft_X7_site_34, ft_X7_site_37, ft_X7_site_40, ft_X7_site_41, ft_X7_site_44, ft_X7_site_46, ft_X7_site_47, ft_X7_site_50, ft_X7_site_51, ft_X7_site_52, ft_X7_site_53, ft_X7_site_54, ft_X7_site_55, ft_X7_site_58, ft_X7_site_61, ft_X7_site_62, ft_X7_site_65, ft_X7_site_66, ft_X7_site_67, ft_X7_site_70, ft_X7_site_71, ft_X7_site_72, ft_X7_site_73, ft_X7_site_76, ft_X7_site_79, ft_X7_site_80, ft_X7_site_81, ft_X7_site_82, ft_X7_site_83, ft_X7_site_86, ft_X7_site_89, ft_X7_site_90, ft_X7_site_93, ft_X7_site_94, ft_X7_site_95, ft_X7_site_98, ft_X7_site_99, ft_X7_site_100, ft_X7_site_101, ft_X7_site_102, ft_X7_site_105, ft_X7_site_106, ft_X7_site_107, ft_X7_site_110, ft_X7_site_111, ft_X7_site_112, ft_X7_site_113, ft_X7_site_114, ft_X7_site_117, ft_X7_site_118, ft_X7_site_119, ft_X7_site_122, ft_X7_site_123, ft_X7_site_124, ft_X7_site_125, ft_X7_site_126, ft_X7_site_129, ft_X7_site_130, ft_X7_site_131, ft_X7_site_134, ft_X7_site_135, ft_X7_site_136, ft_X7_site_137, ft_X7_site_138, ft_X7_site_141, ft_X7_site_143, ft_X7_site_144, ft_X7_site_145, ft_X7_site_146, ft_X7_site_149, ft_X7_site_150, ft_X7_site_151, ft_X7_site_152, ft_X7_site_155, ft_X7_site_158, ft_X7_site_159, ft_X7_site_160, ft_X7_site_163, ft_X7_site_164, ft_X7_site_167, ft_X7_site_168, ft_X7_site_169, ft_X7_site_170, ft_X7_site_171, ft_X7_site_174, ft_X7_site_175, ft_X7_site_176, ft_X7_site_177, ft_X7_site_178, ft_X7_site_181, fl_71_10, fl_71_28, fl_71_29, fl_71_30, fl_71_32, fp_71_2, fp_71_4, fp_71_9, aw_38 jmr78, hrow_hrow, u1, u2, u3, p3, p4, p10, p11]
    generalize hM : hrow (hrow (hrow C2 78 frR) 71 (upd (upd (upd (C2 71) 2 (nI s.1.1)) 4 (nI s.1.2)) 9 pa)) 78 (upd frR 38 li) = M
    have m71 : M 71 = upd (upd (upd (C2 71) 2 (nI s.1.1)) 4 (nI s.1.2)) 9 pa := by rw [← hM, hrow_n (by decide), hrow_s]
    have m78 : M 78 = upd frR 38 li := by rw [← hM, hrow_s]
    have mo : ∀ a, a ≠ 71 → a ≠ 78 → M a = C2 a := fun a g1 g2 => by rw [← hM, hrow_n g2, hrow_n g1, hrow_n g2]
    have mP : M 71 2 = nI s.1.1 := by rw [m71, upd_ne (by decide), upd_ne (by decide), upd_eq]
    have mK : M 71 4 = nI s.1.2 := by rw [m71, upd_ne (by decide), upd_eq]
    have key := lp_X7_site1 (Q := Q) (M := M) (z := z) (nb := nb) (A := A) hP4 mP (by rw [mo 89 (by decide) (by decide), p5]) (fun f hf => lp_X7_site2 (M := hrow M 73 f) (P := s.1.1) (K := s.1.2) (N := N) (M1 := M1) (R := R) (D := D) hK6 (by rw [hrow_n (by decide)]; exact mP) (by rw [hrow_n (by decide)]; exact mK) (by rw [hrow_n (by decide), mo 90 (by decide) (by decide)]; exact p6) (by rw [hrow_n (by decide), mo 91 (by decide) (by decide)]; exact p7) (by rw [hrow_n (by decide), mo 92 (by decide) (by decide)]; exact p8) (by rw [hrow_n (by decide), mo 93 (by decide) (by decide)]; exact p9) (fun C' h1 h2 h3 h4 h5 => hy ok lim C' ⟨⟨fun a ha => ?_, fun i hi g2 g4 g9 g13 => ?_, ?_, ?_⟩, ⟨?_, ?_, ?_, ?_⟩, h3, fun p => ?_, fun c => ?_, fun i => ?_⟩) s.1.2 0 (by omega) (hrow M 73 f) (fun _ _ => rfl) (fun c => by simp) (fun i => by rw [if_neg (by omega)])) s.1.1 0 (by omega) (M 73) (fun p => by rw [if_neg (by omega)])
    · rw [hrow_self] at key
      exact key
    · have ha' : vN a = false ∧ (a ≠ 73 ∧ a ≠ 74 ∧ a ≠ 75 ∧ a ≠ 76 ∧ a ≠ 77 ∧ a ≠ 78 ∧ a ≠ 82) := by
        unfold vM at ha
        simp at ha
        exact ha
      have hv := vN_n ha'.1
      rw [h1 a hv.2.1 (by omega) (by omega), hrow_n (by omega), mo a hv.2.1 (by omega)]
      exact v.row a ha'.1
    · rw [h2, upd_ne g13, hrow_n (by decide), m71, upd_ne g9, upd_ne g4, upd_ne g2]
      exact v.fld i hi
    · rw [h1 12 (by decide) (by decide) (by omega), hrow_n (by decide), mo 12 (by decide) (by decide)]
      exact v.2.2.1
    · rw [h1 79 (by decide) (by decide) (by omega), hrow_n (by decide), mo 79 (by decide) (by decide)]
      exact v.2.2.2
    · rw [h2, upd_ne (by decide), hrow_n (by decide)]; exact mP
    · rw [h2, upd_ne (by decide), hrow_n (by decide)]; exact mK
    · rw [h2, upd_ne (by decide), hrow_n (by decide), m71, upd_eq]
    · rw [h2, upd_eq]
    · rw [h1 73 (by decide) (by decide) (by omega), hrow_s, hf p, mo 73 (by decide) (by decide), v.row 73 rfl]
      by_cases g : p < s.1.1
      · rw [if_pos g, if_pos g]; exact gA p g
      · rw [if_neg g, if_neg g]
    · have q := h4 c
      rw [hrow_n (show 74 ≠ 73 by decide), hrow_n (show 75 ≠ 73 by decide), hrow_n (show 76 ≠ 73 by decide), hrow_n (show 77 ≠ 73 by decide), mo 74 (by decide) (by decide), mo 75 (by decide) (by decide), mo 76 (by decide) (by decide), mo 77 (by decide) (by decide), v.row 74 rfl, v.row 75 rfl, v.row 76 rfl, v.row 77 rfl] at q
      rw [q.1, q.2.1, q.2.2.1, q.2.2.2]
      by_cases g : c < s.1.2
      · simp only [if_pos g]
        exact gC c g
      · simp only [if_neg g]
        exact ⟨trivial, trivial, trivial, trivial⟩
    · rw [h5 i, hrow_n (by decide), m78]
      unfold siR
      by_cases g : 32 ≤ i ∧ i < 32 + s.1.2
      · rw [if_pos g, if_neg (by omega), if_pos g]
        exact (gC (i - 32) (by omega)).1
      · rw [if_neg g, if_neg g]
        by_cases g2 : i = 38
        · subst g2
          rw [upd_eq, if_neg (by omega), if_pos rfl]
        · rw [upd_ne g2, if_neg g2]
          rfl
  · simp -implicitDefEqProofs only [jr_0, jr_1, jr_2, j_iconst, j_lconst, j_iload0, j_aload0, j_istore0, j_astore0, j_iinc0, j_iload1, j_aload1, j_istore1, j_astore1, j_iinc1, j_iload2, j_aload2, j_istore2, j_astore2, j_iinc2, j_iload3, j_aload3, j_istore3, j_astore3, j_iinc3, j_iload4, j_aload4, j_istore4, j_astore4, j_iinc4, j_iload5, j_aload5, j_istore5, j_astore5, j_iinc5, j_iload6, j_aload6, j_istore6, j_astore6, j_iinc6, j_iload7, j_aload7, j_istore7, j_astore7, j_iinc7, j_iload8, j_aload8, j_istore8, j_astore8, j_iinc8, j_iadd, j_isub, j_imul, j_iand, j_ior, j_ixor, j_ishl, j_ishr, j_iushr, j_idiv, j_irem, j_ineg, j_ladd, j_lmul, j_land, j_lor, j_lcmp, j_lushr, j_lshl, j_i2l, j_l2i, j_dupI, j_dupR, j_popI, j_dup2, j_ifeq, j_iceq, j_ifne, j_icne, j_iflt, j_iclt, j_ifge, j_icge, j_ifgt, j_icgt, j_ifle, j_icle, j_goto, j_tsw, j_sw0, j_sw1, j_ireturn, j_zreturn, j_lreturn, j_return, j_getfield, j_putI, j_putJ, j_putR, j_iaload, j_baload, j_iastore, j_bastore, j_aaload, j_q, j_aastore, j_acopy, j_mmin, j_mmax, j_mabs, j_objinit, j_new, j_newI, j_newQ, j_sld, j_slen, j_callV0, j_callI0, j_callS0, j_callV1, j_callI1, j_callS1, j_callV2, j_callI2, j_callS2, j_callV3, j_callS3, j_callV4, j_callS4, j_callV5, j_callS5, j_pushS, j_pushN, j_sh0, j_sh1, j_sh2, j_sh3, j_sh4, Int32.reduceAdd, Int32.reduceMul, Int32.reduceSub, Int32.reduceLT, Int32.reduceLE, eq_self, i32_10, i32_01, ne_eq, hrow_s, hrow_n, ne10, ne100, ne1000, ne7, ne4, ne14, ne9973, or_true, true_or, or_false, false_or, not_true_eq_false, not_false_eq_true, false_implies, implies_true, and_true, forall_const, true_implies, jargs_n, jargs_r, jargs_i, List.cons_append, List.nil_append, true_and, Nat.reduceEqDiff, reduceIte, ft_X7_site_0, ft_X7_site_1, ft_X7_site_4, ft_X7_site_6, ft_X7_site_9, ft_X7_site_11, ft_X7_site_12, ft_X7_site_13, ft_X7_site_16, ft_X7_site_17, ft_X7_site_18, ft_X7_site_21, ft_X7_site_24, ft_X7_site_25, ft_X7_site_26, ft_X7_site_29, ft_X7_site_32, ft_X7_site_33, ft_X7_site_34, ft_X7_site_37, ft_X7_site_40, ft_X7_site_41, ft_X7_site_44, ft_X7_site_46, ft_X7_site_47, ft_X7_site_50, ft_X7_site_51, ft_X7_site_52, ft_X7_site_53, ft_X7_site_54, ft_X7_site_55, ft_X7_site_58, ft_X7_site_61, ft_X7_site_62, ft_X7_site_65, ft_X7_site_66, ft_X7_site_67, ft_X7_site_70, ft_X7_site_71, ft_X7_site_72, ft_X7_site_73, ft_X7_site_76, ft_X7_site_79, ft_X7_site_80, ft_X7_site_81, ft_X7_site_82, ft_X7_site_83, ft_X7_site_86, ft_X7_site_89, ft_X7_site_90, ft_X7_site_93, ft_X7_site_94, ft_X7_site_95, ft_X7_site_98, ft_X7_site_99, ft_X7_site_100, ft_X7_site_101, ft_X7_site_102, ft_X7_site_105, ft_X7_site_106, ft_X7_site_107, ft_X7_site_110, ft_X7_site_111, ft_X7_site_112, ft_X7_site_113, ft_X7_site_114, ft_X7_site_117, ft_X7_site_118, ft_X7_site_119, ft_X7_site_122, ft_X7_site_123, ft_X7_site_124, ft_X7_site_125, ft_X7_site_126, ft_X7_site_129, ft_X7_site_130, ft_X7_site_131, ft_X7_site_134, ft_X7_site_135, ft_X7_site_136, ft_X7_site_137, ft_X7_site_138, ft_X7_site_141, ft_X7_site_143, ft_X7_site_144, ft_X7_site_145, ft_X7_site_146, ft_X7_site_149, ft_X7_site_150, ft_X7_site_151, ft_X7_site_152, ft_X7_site_155, ft_X7_site_158, ft_X7_site_159, ft_X7_site_160, ft_X7_site_163, ft_X7_site_164, ft_X7_site_167, ft_X7_site_168, ft_X7_site_169, ft_X7_site_170, ft_X7_site_171, ft_X7_site_174, ft_X7_site_175, ft_X7_site_176, ft_X7_site_177, ft_X7_site_178, ft_X7_site_181, h9]
    exact hn (by rw [← hw]; exact h9) C2 v
theorem bgF_si {C : Nat → Nat → Int32} {P K : Nat} {s : jBd} {li : Int32} (h4 : C 3 4 = li) (h3 : C 3 3 = nI s.1.2) (h5 : C 5 = s.2.2) (hK : s.1.2 ≤ 6) : bgF C = siR s li := by
  funext i
  unfold bgF siR
  by_cases g1 : i < 4
  · rw [if_pos g1, if_pos g1]
  · rw [if_neg g1, if_neg g1]
    by_cases g2 : i < 32
    · rw [if_pos g2, if_neg (by omega), if_neg (by omega)]
    · rw [if_neg g2]
      by_cases g3 : i < 38
      · rw [if_pos g3]
        by_cases g4 : i < 32 + s.1.2
        · rw [if_pos ⟨by omega, g4⟩, pick_t, trf_0 (by omega), h5]
          unfold okCar
          rw [h3]
          exact ⟨nI_le (a := 0) (by omega) (by omega), nI_lt (by omega) (by omega)⟩
        · rw [if_neg (by omega), pick_f, if_neg (by omega)]
          unfold okCar
          rw [h3]
          intro q
          have := q.2
          rw [nI_ltq (by omega) (by omega)] at this
          omega
      · rw [if_neg g3, if_neg (show ¬ (32 ≤ i ∧ i < 32 + s.1.2) by omega), h4]
theorem siR_I {s : jBd} {li : Int32} {A0 T0 : Nat → Int32} {v B : Nat} (ok : SOk A0 T0 s) (hv : v ≤ 99) (e : li = nI v) : Inv s.1.1 s.1.2 B (siR s li) := by
  have h4 := ok.1.h4
  have h6 := ok.1.h6
  refine ⟨⟨fun i hi => ?_, fun p hp => Or.inl ⟨?_, ?_⟩⟩, fun p q hp hq _ => Or.inr ?_, fun c hc => ?_, fun p hp => ⟨0, by omega, ?_, fun _ => rfl⟩, fun p hp => Or.inl ?_, v, hv, ?_⟩
  · unfold siR
    rw [if_neg (by omega), if_neg (by omega), if_neg (by omega)]
  · unfold siR
    rw [if_pos hp]
  · unfold siR
    rw [if_neg (by omega), if_neg (by omega), if_neg (by omega)]
  · unfold siR
    rw [if_pos hp]
  · unfold siR
    by_cases g : c < s.1.2
    · rw [if_neg (by omega), if_pos (by omega), show 32 + c - 32 = c by omega]
      obtain ⟨n, m, r, k, ⟨⟨h1, h2⟩, -⟩, en, -⟩ := ok.1.2.2 c g
      exact ⟨n, h2, en, fun w => by omega⟩
    · rw [if_neg (by omega), if_neg (by omega), if_neg (by omega)]
      exact ⟨0, by omega, rfl, fun _ => rfl⟩
  · unfold siR
    rw [if_neg (by omega), if_neg (by omega), if_neg (by omega)]
    rfl
  · unfold siR
    rw [if_neg (by omega), if_neg (by omega), if_neg (by omega)]
  · unfold siR
    rw [if_neg (by omega), if_neg (by omega), if_pos rfl]
    exact e
theorem hasP_0 {k : Nat} (hk : k < 4) : ¬ hasP 0 (nI k) := by
  rw [hasP_bit hk]
  simp
theorem co_site : Co S_X6_site S_X7_site [.ref 0] [.ref 71] := by
  intro n C z h hn nb Q hQ
  obtain ⟨P, K, L, nx, ct, sn, h⟩ := h
  obtain ⟨⟨h70, eL, eM⟩, hb⟩ := h.tr
  have k := h.ak
  have c78 : Cut (C 78) := by rw [k.e]; exact k.iv.cut
  refine s_X6_site eL h70 k.iv.cut ?_
  by_cases g : faultA (C 2) L = -9
  · rw [pick_t g]
    have so : ∀ a, a ≠ 0 → a ≠ 3 → a ≠ 4 → a ≠ 5 → a ≠ 9 → a ≠ 15 → siteC C L a = C a := fun a g0 g3 g4 g5 g9 g15 => by
      unfold siteC
      rw [hrow_n g0, hrow_n g15, hrow_n g9, bldC_o g3 g4 g5]
    have s71 : siteC C L 71 = C 71 := so 71 (by decide) (by decide) (by decide) (by decide) (by decide) (by decide)
    have s2 : siteC C L 2 = C 2 := so 2 (by decide) (by decide) (by decide) (by decide) (by decide) (by decide)
    have s72 : siteC C L 72 = C 72 := so 72 (by decide) (by decide) (by decide) (by decide) (by decide) (by decide)
    refine hQ _ _ _ fun nb Q hq => ⟨siteC C L, z, L, C 4, C 5, rfl, rfl, ⟨⟨by rw [s71]; exact eM, h70⟩, fun i hi => by rw [s72, s2]; exact hb i hi⟩, ⟨by rw [so 12 (by decide) (by decide) (by decide) (by decide) (by decide) (by decide)]; exact k.2.2.1, by rw [so 79 (by decide) (by decide) (by decide) (by decide) (by decide) (by decide)]; exact k.2.2.2, by rw [so 78 (by decide) (by decide) (by decide) (by decide) (by decide) (by decide)]; exact c78⟩, fun w => absurd (by rw [s2]; exact g) w, fun _ ok lim C' ms => ?_⟩
    rw [s2] at ok lim ms ⊢
    have eb : bdF (C 2) L 10 4 ((0, 0), C 4, C 5) = bdS C L := rfl
    rw [eb] at ok ms ⊢
    have x3 : siteC C L 3 = upd (upd (upd (upd (C 3) 4 (10 * dF (C 2) L 1 + dF (C 2) L 2)) 5 (dF (C 2) L 3)) 2 (nI (bdS C L).1.1)) 3 (nI (bdS C L).1.2) := by
      unfold siteC bldC bdM bd0
      rw [hrow_n (by decide), hrow_n (by decide), hrow_n (by decide), hrow_s, hrow_s]
    have x4 : siteC C L 4 = (bdS C L).2.1 := by
      unfold siteC bldC bdM
      rw [hrow_n (by decide), hrow_n (by decide), hrow_n (by decide), hrow_n (by decide), hrow_n (by decide), hrow_s]
    have x5 : siteC C L 5 = (bdS C L).2.2 := by
      unfold siteC bldC bdM
      rw [hrow_n (by decide), hrow_n (by decide), hrow_n (by decide), hrow_n (by decide), hrow_s]
    have x15 : siteC C L 15 = upd (C 15) 2 0 := by
      unfold siteC
      rw [hrow_n (by decide), hrow_s]
    have x0 : siteC C L 0 9 = 0 := by
      unfold siteC
      rw [hrow_s, upd_eq]
    have y3 : bldC C L 3 = upd (upd (upd (upd (C 3) 4 (10 * dF (C 2) L 1 + dF (C 2) L 2)) 5 (dF (C 2) L 3)) 2 (nI (bdS C L).1.1)) 3 (nI (bdS C L).1.2) := by
      unfold bldC bdM bd0
      rw [hrow_s, hrow_s]
    have y5 : bldC C L 5 = (bdS C L).2.2 := by
      unfold bldC bdM
      rw [hrow_n (by decide), hrow_s]
    have x9 : siteC C L 9 = siR (bdS C L) (10 * dF (C 2) L 1 + dF (C 2) L 2) := by
      unfold siteC
      rw [hrow_n (by decide), hrow_n (by decide), hrow_s]
      exact bgF_si (P := P) (K := K) (by rw [y3, upd_ne (by decide), upd_ne (by decide), upd_ne (by decide), upd_eq]) (by rw [y3, upd_eq]) y5 ok.1.h6
    obtain ⟨⟨m1, m2, m12, m79⟩, ⟨mP, mK, mpa, m13⟩, ⟨m820, m821⟩, m73, m7, m78⟩ := ms
    obtain ⟨vv, hvv, evv⟩ := lim
    have r : ∀ a, vM a = false → (a != 0 && (a != 3 && (a != 4 && (a != 5 && (a != 9 && a != 15))))) = true → C' a = C a := fun a ha hb => by
      simp at hb
      rw [m1 a ha, so a hb.1 hb.2.1 hb.2.2.1 hb.2.2.2.1 hb.2.2.2.2.1 hb.2.2.2.2.2]
    have f : ∀ i, vF i = false → i ≠ 2 → i ≠ 4 → i ≠ 9 → i ≠ 13 → C' 71 i = C 71 i := fun i h1 h2 h3 h4 h5 => by rw [m2 i h1 h2 h3 h4 h5, s71]
    have rr : ∀ j, j < 14 → C' (17 + 3 * j) = C (17 + 3 * j) := fun j hj => r _ ((by decide : ∀ j, j < 14 → vM (17 + 3 * j) = false) j hj) ((by decide : ∀ j, j < 14 → (17 + 3 * j != 0 && (17 + 3 * j != 3 && (17 + 3 * j != 4 && (17 + 3 * j != 5 && (17 + 3 * j != 9 && 17 + 3 * j != 15))))) = true) j hj)
    have e9 : C' 9 = siR (bdS C L) (10 * dF (C 2) L 1 + dF (C 2) L 2) := by rw [m1 9 rfl, x9]
    have e15 : C' 15 = upd (C 15) 2 0 := by rw [m1 15 rfl, x15]
    have e3 := (m1 3 rfl).trans x3
    have e4 := (m1 4 rfl).trans x4
    have e5 := (m1 5 rfl).trans x5
    obtain ⟨⟨⟨hx, h14, hc, hc14, hcr⟩, hm14, hm13⟩, hh⟩ := h.hr
    refine hq C' z ⟨(bdS C L).1.1, (bdS C L).1.2, L, nx, 0, sn, ⟨h.hz, by rw [f 22 rfl (by decide) (by decide) (by decide) (by decide)]; exact h.h15, by rw [f 23 rfl (by decide) (by decide) (by decide) (by decide)]; exact h.h9⟩, ⟨⟨⟨?_, ?_, ?_⟩, ⟨mP, mK, ?_⟩, fun p hp => ?_, fun c hc => ?_⟩, ⟨?_, ?_⟩, m12, m79⟩, ?_, ?_, ?_, ?_⟩
    · rw [e4, e5]; exact ok.1
    · rw [e3, upd_ne (by decide), upd_eq]
    · rw [e3, upd_eq]
    · rw [mpa, e3, upd_ne (by decide), upd_ne (by decide), upd_eq]
    · rw [m73 p, e4]
      by_cases w : p < (bdS C L).1.1
      · rw [if_pos w]
      · rw [if_neg w, so 73 (by decide) (by decide) (by decide) (by decide) (by decide) (by decide), k.s.am hp]
        exact (ok.2.1 p (by omega)).symm
    · obtain ⟨w1, w2, w3, w4⟩ := m7 c
      rw [so 74 (by decide) (by decide) (by decide) (by decide) (by decide) (by decide)] at w1
      rw [so 75 (by decide) (by decide) (by decide) (by decide) (by decide) (by decide)] at w2
      rw [so 76 (by decide) (by decide) (by decide) (by decide) (by decide) (by decide)] at w3
      rw [so 77 (by decide) (by decide) (by decide) (by decide) (by decide) (by decide)] at w4
      rw [w1, w2, w3, w4, e5]
      by_cases w : c < (bdS C L).1.2
      · simp only [if_pos w]
        exact ⟨trivial, trivial, trivial, trivial⟩
      · simp only [if_neg w]
        rw [k.s.nd hc, k.s.mx hc, k.s.rk hc, k.s.kd hc, ok.2.2 _ (by omega), ok.2.2 _ (by omega), ok.2.2 _ (by omega), ok.2.2 _ (by omega)]
        exact ⟨rfl, rfl, rfl, rfl⟩
    · rw [e9]
      exact funext m78
    · rw [e9]
      exact siR_I ok hvv evv
    · exact h.tr.eq (r 1 rfl rfl) (r 2 rfl rfl) (r 72 rfl rfl) (f 1 rfl (by decide) (by decide) (by decide) (by decide))
    · refine ⟨⟨⟨by rw [e15, upd_ne (by decide)]; exact hx, h14, by rw [e15, upd_eq]; rfl, by omega, fun j hj => by rw [rr j hj]; exact hcr j hj⟩, by rw [f 14 rfl (by decide) (by decide) (by decide) (by decide)]; exact hm14, ?_⟩, fun i hi => absurd hi (Nat.not_lt_zero i)⟩
      rw [m13]
      rfl
    · have e0 : C' 0 9 = 0 := by rw [m1 0 rfl, x0]
      refine ⟨⟨by rw [r 65 rfl rfl]; exact h.kr.1.1, by rw [r 68 rfl rfl]; exact h.kr.1.2⟩, Or.inl ⟨by rw [e0]; exact hasP_0 (by decide), m820⟩, Or.inl ⟨by rw [e0]; exact hasP_0 (by decide), m821⟩⟩
    · exact h.or.eq (r 60 rfl rfl) (r 61 rfl rfl) (r 62 rfl rfl) (r 63 rfl rfl) (r 83 rfl rfl) (r 84 rfl rfl) (r 85 rfl rfl) (f 20 rfl (by decide) (by decide) (by decide) (by decide))
  · rw [pick_f g]
    refine hQ _ _ _ fun nb Q hq => ⟨C, z, L, C 4, C 5, rfl, rfl, ⟨⟨eM, h70⟩, hb⟩, ⟨k.2.2.1, k.2.2.2, c78⟩, fun _ C' v => hq C' z (h.rel v h.hz), fun w => absurd w g⟩
