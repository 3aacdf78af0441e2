/-! shares -/
def S_X7_metersBy : jSp := fun _ vs mem Q => ∃ C C1 z P K B, ∃ f : Int32, vs = [.ref 71, .int f] ∧ mem = memS 94 C1 z ∧ AQ C P K B ∧ Ev C C1 ∧ ∀ C', Ev C C' → C' 88 = C1 88 → Q (some (.int (worF C f))) (memS 94 C' z)
def F_X7_metersBy_0 : Nat → jT := fun pc => (bif Nat.blt pc 9 then (bif Nat.blt pc 2 then (bif Nat.blt pc 1 then (bif Nat.beq pc 0 then J_aload 0 1 else jbad) else (bif Nat.beq pc 1 then J_iload 1 2 else jbad)) else (bif Nat.blt pc 5 then (bif Nat.beq pc 2 then J_putI 7 22 5 else jbad) else (bif Nat.blt pc 6 then (bif Nat.beq pc 5 then J_aload 0 6 else jbad) else (bif Nat.beq pc 6 then J_getfield 7 10 9 else jbad)))) else (bif Nat.blt pc 13 then (bif Nat.blt pc 10 then (bif Nat.beq pc 9 then J_aload 0 10 else jbad) else (bif Nat.beq pc 10 then J_getfield 7 11 13 else jbad)) else (bif Nat.blt pc 16 then (bif Nat.beq pc 13 then J_callS S_X7_copy 2 16 else jbad) else (bif Nat.blt pc 17 then (bif Nat.beq pc 16 then J_aload 0 17 else jbad) else (bif Nat.beq pc 17 then J_iconst 20 19 else jbad)))))
theorem ftl_X7_metersBy_0 : F_X7_metersBy_0 0 = J_aload 0 1 := rfl
theorem ftl_X7_metersBy_1 : F_X7_metersBy_0 1 = J_iload 1 2 := rfl
theorem ftl_X7_metersBy_2 : F_X7_metersBy_0 2 = J_putI 7 22 5 := rfl
theorem ftl_X7_metersBy_5 : F_X7_metersBy_0 5 = J_aload 0 6 := rfl
theorem ftl_X7_metersBy_6 : F_X7_metersBy_0 6 = J_getfield 7 10 9 := rfl
theorem ftl_X7_metersBy_9 : F_X7_metersBy_0 9 = J_aload 0 10 := rfl
theorem ftl_X7_metersBy_10 : F_X7_metersBy_0 10 = J_getfield 7 11 13 := rfl
theorem ftl_X7_metersBy_13 : F_X7_metersBy_0 13 = J_callS S_X7_copy 2 16 := rfl
theorem ftl_X7_metersBy_16 : F_X7_metersBy_0 16 = J_aload 0 17 := rfl
theorem ftl_X7_metersBy_17 : F_X7_metersBy_0 17 = J_iconst 20 19 := rfl
theorem F_X7_metersBy_0_ok : jOK Y_X7_metersBy none (F_X7_metersBy_0) := (jOK_node (jOK_node (jOK_node (jOK_leaf (sn_aload_n dX7_metersBy_0 rfl rfl)) (jOK_leaf (sn_iload_n dX7_metersBy_1 rfl rfl))) (jOK_node (jOK_leaf (sn_putI tyX7 dX7_metersBy_2 rfl rfl (by decide) tw_636 jin7 tyX7_ok nmX7 rfl rfl)) (jOK_node (jOK_leaf (sn_aload_n dX7_metersBy_5 rfl rfl)) (jOK_leaf (sn_getfield dX7_metersBy_6 rfl rfl (by decide) tw_624 jin7))))) (jOK_node (jOK_node (jOK_leaf (sn_aload_n dX7_metersBy_9 rfl rfl)) (jOK_leaf (sn_getfield dX7_metersBy_10 rfl rfl (by decide) tw_625 jin7))) (jOK_node (jOK_leaf (sn_callS (Y' := Y_X7_copy) ok_X7_copy dX7_metersBy_13 rfl rfl tw_923 tw_924 tw_8 jc_X7_copy ⟨by decide, by decide, rfl⟩ ⟨by decide, by decide⟩)) (jOK_node (jOK_leaf (sn_aload_n dX7_metersBy_16 rfl rfl)) (jOK_leaf (sn_bipush dX7_metersBy_17 rfl rfl))))))
def F_X7_metersBy_19 : Nat → jT := fun pc => (bif Nat.blt pc 30 then (bif Nat.blt pc 24 then (bif Nat.blt pc 21 then (bif Nat.beq pc 19 then J_iconst 15 21 else jbad) else (bif Nat.beq pc 21 then J_callV 7 S_X7_tryMinutes 2 24 else jbad)) else (bif Nat.blt pc 25 then (bif Nat.beq pc 24 then J_aload 0 25 else jbad) else (bif Nat.blt pc 27 then (bif Nat.beq pc 25 then J_iconst 15 27 else jbad) else (bif Nat.beq pc 27 then J_putI 7 22 30 else jbad)))) else (bif Nat.blt pc 32 then (bif Nat.blt pc 31 then (bif Nat.beq pc 30 then J_aload 0 31 else jbad) else (bif Nat.beq pc 31 then J_aload 0 32 else jbad)) else (bif Nat.blt pc 35 then (bif Nat.beq pc 32 then J_getfield 7 11 35 else jbad) else (bif Nat.blt pc 38 then (bif Nat.beq pc 35 then J_callV 7 S_X7_meters 1 38 else jbad) else (bif Nat.beq pc 38 then J_ireturn 0 0 else jbad)))))
theorem ftl_X7_metersBy_19 : F_X7_metersBy_19 19 = J_iconst 15 21 := rfl
theorem ftl_X7_metersBy_21 : F_X7_metersBy_19 21 = J_callV 7 S_X7_tryMinutes 2 24 := rfl
theorem ftl_X7_metersBy_24 : F_X7_metersBy_19 24 = J_aload 0 25 := rfl
theorem ftl_X7_metersBy_25 : F_X7_metersBy_19 25 = J_iconst 15 27 := rfl
theorem ftl_X7_metersBy_27 : F_X7_metersBy_19 27 = J_putI 7 22 30 := rfl
theorem ftl_X7_metersBy_30 : F_X7_metersBy_19 30 = J_aload 0 31 := rfl
theorem ftl_X7_metersBy_31 : F_X7_metersBy_19 31 = J_aload 0 32 := rfl
theorem ftl_X7_metersBy_32 : F_X7_metersBy_19 32 = J_getfield 7 11 35 := rfl
theorem ftl_X7_metersBy_35 : F_X7_metersBy_19 35 = J_callV 7 S_X7_meters 1 38 := rfl
theorem ftl_X7_metersBy_38 : F_X7_metersBy_19 38 = J_ireturn 0 0 := rfl
theorem F_X7_metersBy_19_ok : jOK Y_X7_metersBy none (F_X7_metersBy_19) := (jOK_node (jOK_node (jOK_node (jOK_leaf (sn_bipush dX7_metersBy_19 rfl rfl)) (jOK_leaf (sn_callV (Y' := Y_X7_tryMinutes) ok_X7_tryMinutes dX7_metersBy_21 rfl rfl rfl tw_926 tw_928 tp_54 tw_8 jc_X7_tryMinutes rfl ⟨by decide, by decide, rfl⟩ ⟨by decide, by decide⟩))) (jOK_node (jOK_leaf (sn_aload_n dX7_metersBy_24 rfl rfl)) (jOK_node (jOK_leaf (sn_bipush dX7_metersBy_25 rfl rfl)) (jOK_leaf (sn_putI tyX7 dX7_metersBy_27 rfl rfl (by decide) tw_636 jin7 tyX7_ok nmX7 rfl rfl))))) (jOK_node (jOK_node (jOK_leaf (sn_aload_n dX7_metersBy_30 rfl rfl)) (jOK_leaf (sn_aload_n dX7_metersBy_31 rfl rfl))) (jOK_node (jOK_leaf (sn_getfield dX7_metersBy_32 rfl rfl (by decide) tw_625 jin7)) (jOK_node (jOK_leaf (sn_callV (Y' := Y_X7_meters) ok_X7_meters dX7_metersBy_35 rfl rfl rfl tw_776 tw_778 tp_31 tw_8 jc_X7_meters rfl ⟨by decide, by decide, rfl⟩ ⟨by decide, by decide⟩)) (jOK_leaf (sn_ireturn dX7_metersBy_38 rfl rfl))))))
def F_X7_metersBy_0_38 : Nat → jT := fun pc => bif Nat.blt pc 19 then F_X7_metersBy_0 pc else F_X7_metersBy_19 pc
theorem F_X7_metersBy_0_38_l {pc : Nat} (h : Nat.blt pc 19 = true) : F_X7_metersBy_0_38 pc = F_X7_metersBy_0 pc := by unfold F_X7_metersBy_0_38; rw [h]; rfl
theorem F_X7_metersBy_0_38_r {pc : Nat} (h : Nat.blt pc 19 = false) : F_X7_metersBy_0_38 pc = F_X7_metersBy_19 pc := by unfold F_X7_metersBy_0_38; rw [h]; rfl
theorem F_X7_metersBy_0_38_ok : jOK Y_X7_metersBy none (F_X7_metersBy_0_38) := jOK_node (F_X7_metersBy_0_ok) (F_X7_metersBy_19_ok)
def F_X7_metersBy : Nat → jT := F_X7_metersBy_0_38
theorem OK_X7_metersBy : jOK Y_X7_metersBy none (F_X7_metersBy) := F_X7_metersBy_0_38_ok
theorem ft_X7_metersBy_0 : F_X7_metersBy 0 = J_aload 0 1 := (F_X7_metersBy_0_38_l rfl).trans (ftl_X7_metersBy_0)
theorem ft_X7_metersBy_1 : F_X7_metersBy 1 = J_iload 1 2 := (F_X7_metersBy_0_38_l rfl).trans (ftl_X7_metersBy_1)
theorem ft_X7_metersBy_2 : F_X7_metersBy 2 = J_putI 7 22 5 := (F_X7_metersBy_0_38_l rfl).trans (ftl_X7_metersBy_2)
theorem ft_X7_metersBy_5 : F_X7_metersBy 5 = J_aload 0 6 := (F_X7_metersBy_0_38_l rfl).trans (ftl_X7_metersBy_5)
theorem ft_X7_metersBy_6 : F_X7_metersBy 6 = J_getfield 7 10 9 := (F_X7_metersBy_0_38_l rfl).trans (ftl_X7_metersBy_6)
theorem ft_X7_metersBy_9 : F_X7_metersBy 9 = J_aload 0 10 := (F_X7_metersBy_0_38_l rfl).trans (ftl_X7_metersBy_9)
theorem ft_X7_metersBy_10 : F_X7_metersBy 10 = J_getfield 7 11 13 := (F_X7_metersBy_0_38_l rfl).trans (ftl_X7_metersBy_10)
theorem ft_X7_metersBy_13 : F_X7_metersBy 13 = J_callS S_X7_copy 2 16 := (F_X7_metersBy_0_38_l rfl).trans (ftl_X7_metersBy_13)
theorem ft_X7_metersBy_16 : F_X7_metersBy 16 = J_aload 0 17 := (F_X7_metersBy_0_38_l rfl).trans (ftl_X7_metersBy_16)
theorem ft_X7_metersBy_17 : F_X7_metersBy 17 = J_iconst 20 19 := (F_X7_metersBy_0_38_l rfl).trans (ftl_X7_metersBy_17)
theorem ft_X7_metersBy_19 : F_X7_metersBy 19 = J_iconst 15 21 := (F_X7_metersBy_0_38_r rfl).trans (ftl_X7_metersBy_19)
theorem ft_X7_metersBy_21 : F_X7_metersBy 21 = J_callV 7 S_X7_tryMinutes 2 24 := (F_X7_metersBy_0_38_r rfl).trans (ftl_X7_metersBy_21)
theorem ft_X7_metersBy_24 : F_X7_metersBy 24 = J_aload 0 25 := (F_X7_metersBy_0_38_r rfl).trans (ftl_X7_metersBy_24)
theorem ft_X7_metersBy_25 : F_X7_metersBy 25 = J_iconst 15 27 := (F_X7_metersBy_0_38_r rfl).trans (ftl_X7_metersBy_25)
theorem ft_X7_metersBy_27 : F_X7_metersBy 27 = J_putI 7 22 30 := (F_X7_metersBy_0_38_r rfl).trans (ftl_X7_metersBy_27)
theorem ft_X7_metersBy_30 : F_X7_metersBy 30 = J_aload 0 31 := (F_X7_metersBy_0_38_r rfl).trans (ftl_X7_metersBy_30)
theorem ft_X7_metersBy_31 : F_X7_metersBy 31 = J_aload 0 32 := (F_X7_metersBy_0_38_r rfl).trans (ftl_X7_metersBy_31)
theorem ft_X7_metersBy_32 : F_X7_metersBy 32 = J_getfield 7 11 35 := (F_X7_metersBy_0_38_r rfl).trans (ftl_X7_metersBy_32)
theorem ft_X7_metersBy_35 : F_X7_metersBy 35 = J_callV 7 S_X7_meters 1 38 := (F_X7_metersBy_0_38_r rfl).trans (ftl_X7_metersBy_35)
theorem ft_X7_metersBy_38 : F_X7_metersBy 38 = J_ireturn 0 0 := (F_X7_metersBy_0_38_r rfl).trans (ftl_X7_metersBy_38)
theorem ok_X7_metersBy : jMeets Y_X7_metersBy S_X7_metersBy := by
  intro nb vs mem Q h
  obtain ⟨C, C1, z, P, K, B, f, rfl, rfl, q, v, hQ⟩ := h
  have k := q.1
  refine Ok.run OK_X7_metersBy [] 80 [] pn7 (Nat.le_of_ble_eq_true rfl) rfl ?_
  have k' := k.on (i := 22) (x := f) ⟨by decide, by decide, by decide⟩
  have v' := v.on 22 f
  simp -implicitDefEqProofs only [jr_0, jr_1, jr_2, j_iconst, j_lconst, j_iload0, j_aload0, j_istore0, j_astore0, j_iinc0, j_iload1, j_aload1, j_istore1, j_astore1, j_iinc1, j_iload2, j_aload2, j_istore2, j_astore2, j_iinc2, j_iload3, j_aload3, j_istore3, j_astore3, j_iinc3, j_iload4, j_aload4, j_istore4, j_astore4, j_iinc4, j_iload5, j_aload5, j_istore5, j_astore5, j_iinc5, j_iload6, j_aload6, j_istore6, j_astore6, j_iinc6, j_iload7, j_aload7, j_istore7, j_astore7, j_iinc7, j_iload8, j_aload8, j_istore8, j_astore8, j_iinc8, j_iadd, j_isub, j_imul, j_iand, j_ior, j_ixor, j_ishl, j_ishr, j_iushr, j_idiv, j_irem, j_ineg, j_ladd, j_lmul, j_land, j_lor, j_lcmp, j_lushr, j_lshl, j_i2l, j_l2i, j_dupI, j_dupR, j_popI, j_dup2, j_ifeq, j_iceq, j_ifne, j_icne, j_iflt, j_iclt, j_ifge, j_icge, j_ifgt, j_icgt, j_ifle, j_icle, j_goto, j_tsw, j_sw0, j_sw1, j_ireturn, j_zreturn, j_lreturn, j_return, j_getfield, j_putI, j_putJ, j_putR, j_iaload, j_baload, j_iastore, j_bastore, j_aaload, j_q, j_aastore, j_acopy, j_mmin, j_mmax, j_mabs, j_objinit, j_new, j_newI, j_newQ, j_sld, j_slen, j_callV0, j_callI0, j_callS0, j_callV1, j_callI1, j_callS1, j_callV2, j_callI2, j_callS2, j_callV3, j_callS3, j_callV4, j_callS4, j_callV5, j_callS5, j_pushS, j_pushN, j_sh0, j_sh1, j_sh2, j_sh3, j_sh4, Int32.reduceAdd, Int32.reduceMul, Int32.reduceSub, Int32.reduceLT, Int32.reduceLE, eq_self, i32_10, i32_01, ne_eq, hrow_s, hrow_n, ne10, ne100, ne1000, ne7, ne4, ne14, ne9973, or_true, true_or, or_false, false_or, not_true_eq_false, not_false_eq_true, false_implies, implies_true, and_true, forall_const, true_implies, jargs_n, jargs_r, jargs_i, List.cons_append, List.nil_append, true_and, Nat.reduceEqDiff, reduceIte, ft_X7_metersBy_0, ft_X7_metersBy_1, ft_X7_metersBy_2, ft_X7_metersBy_5, ft_X7_metersBy_6, ft_X7_metersBy_9, ft_X7_metersBy_10, ft_X7_metersBy_13, ft_X7_metersBy_16, ft_X7_metersBy_17, ft_X7_metersBy_19, ft_X7_metersBy_21, ft_X7_metersBy_24, ft_X7_metersBy_25, ft_X7_metersBy_27, ft_X7_metersBy_30, ft_X7_metersBy_31, ft_X7_metersBy_32, ft_X7_metersBy_35, ft_X7_metersBy_38, rc_71, fl_71_10, fl_71_11, fp_71_22]
  refine s_copyE k' v' fun C2 v2 e2 f2 r2 => ?_
  have e9 : C2 79 = C 9 := e2
  simp -implicitDefEqProofs only [jr_0, jr_1, jr_2, j_iconst, j_lconst, j_iload0, j_aload0, j_istore0, j_astore0, j_iinc0, j_iload1, j_aload1, j_istore1, j_astore1, j_iinc1, j_iload2, j_aload2, j_istore2, j_astore2, j_iinc2, j_iload3, j_aload3, j_istore3, j_astore3, j_iinc3, j_iload4, j_aload4, j_istore4, j_astore4, j_iinc4, j_iload5, j_aload5, j_istore5, j_astore5, j_iinc5, j_iload6, j_aload6, j_istore6, j_astore6, j_iinc6, j_iload7, j_aload7, j_istore7, j_astore7, j_iinc7, j_iload8, j_aload8, j_istore8, j_astore8, j_iinc8, j_iadd, j_isub, j_imul, j_iand, j_ior, j_ixor, j_ishl, j_ishr, j_iushr, j_idiv, j_irem, j_ineg, j_ladd, j_lmul, j_land, j_lor, j_lcmp, j_lushr, j_lshl, j_i2l, j_l2i, j_dupI, j_dupR, j_popI, j_dup2, j_ifeq, j_iceq, j_ifne, j_icne, j_iflt, j_iclt, j_ifge, j_icge, j_ifgt, j_icgt, j_ifle, j_icle, j_goto, j_tsw, j_sw0, j_sw1, j_ireturn, j_zreturn, j_lreturn, j_return, j_getfield, j_putI, j_putJ, j_putR, j_iaload, j_baload, j_iastore, j_bastore, j_aaload, j_q, j_aastore, j_acopy, j_mmin, j_mmax, j_mabs, j_objinit, j_new, j_newI, j_newQ, j_sld, j_slen, j_callV0, j_callI0, j_callS0, j_callV1, j_callI1, j_callS1, j_callV2, j_callI2, j_callS2, j_callV3, j_callS3, j_callV4, j_callS4, j_callV5, j_callS5, j_pushS, j_pushN, j_sh0, j_sh1, j_sh2, j_sh3, j_sh4, Int32.reduceAdd, Int32.reduceMul, Int32.reduceSub, Int32.reduceLT, Int32.reduceLE, eq_self, i32_10, i32_01, ne_eq, hrow_s, hrow_n, ne10, ne100, ne1000, ne7, ne4, ne14, ne9973, or_true, true_or, or_false, false_or, not_true_eq_false, not_false_eq_true, false_implies, implies_true, and_true, forall_const, true_implies, jargs_n, jargs_r, jargs_i, List.cons_append, List.nil_append, true_and, Nat.reduceEqDiff, reduceIte, ft_X7_metersBy_0, ft_X7_metersBy_1, ft_X7_metersBy_2, ft_X7_metersBy_5, ft_X7_metersBy_6, ft_X7_metersBy_9, ft_X7_metersBy_10, ft_X7_metersBy_13, ft_X7_metersBy_16, ft_X7_metersBy_17, ft_X7_metersBy_19, ft_X7_metersBy_21, ft_X7_metersBy_24, ft_X7_metersBy_25, ft_X7_metersBy_27, ft_X7_metersBy_30, ft_X7_metersBy_31, ft_X7_metersBy_32, ft_X7_metersBy_35, ft_X7_metersBy_38, rc_71]
  refine s_tryE (l := -1) (sil := 0) (n := 20) k' v2 (by rw [hrow_s, upd_ne (by decide), q.2.1.2]; exact Li_19) (by rw [e9]; exact k.iv) (by omega) (by have := q.2.2; omega) Ta_0 fun C3 v3 e3 i3 r3 => ?_
  rw [goF_on, e9, hrow_s, upd_eq] at e3
  have vf := v3.off (y := 15) q.2.1.1
  simp -implicitDefEqProofs only [jr_0, jr_1, jr_2, j_iconst, j_lconst, j_iload0, j_aload0, j_istore0, j_astore0, j_iinc0, j_iload1, j_aload1, j_istore1, j_astore1, j_iinc1, j_iload2, j_aload2, j_istore2, j_astore2, j_iinc2, j_iload3, j_aload3, j_istore3, j_astore3, j_iinc3, j_iload4, j_aload4, j_istore4, j_astore4, j_iinc4, j_iload5, j_aload5, j_istore5, j_astore5, j_iinc5, j_iload6, j_aload6, j_istore6, j_astore6, j_iinc6, j_iload7, j_aload7, j_istore7, j_astore7, j_iinc7, j_iload8, j_aload8, j_istore8, j_astore8, j_iinc8, j_iadd, j_isub, j_imul, j_iand, j_ior, j_ixor, j_ishl, j_ishr, j_iushr, j_idiv, j_irem, j_ineg, j_ladd, j_lmul, j_land, j_lor, j_lcmp, j_lushr, j_lshl, j_i2l, j_l2i, j_dupI, j_dupR, j_popI, j_dup2, j_ifeq, j_iceq, j_ifne, j_icne, j_iflt, j_iclt, j_ifge, j_icge, j_ifgt, j_icgt, j_ifle, j_icle, j_goto, j_tsw, j_sw0, j_sw1, j_ireturn, j_zreturn, j_lreturn, j_return, j_getfield, j_putI, j_putJ, j_putR, j_iaload, j_baload, j_iastore, j_bastore, j_aaload, j_q, j_aastore, j_acopy, j_mmin, j_mmax, j_mabs, j_objinit, j_new, j_newI, j_newQ, j_sld, j_slen, j_callV0, j_callI0, j_callS0, j_callV1, j_callI1, j_callS1, j_callV2, j_callI2, j_callS2, j_callV3, j_callS3, j_callV4, j_callS4, j_callV5, j_callS5, j_pushS, j_pushN, j_sh0, j_sh1, j_sh2, j_sh3, j_sh4, Int32.reduceAdd, Int32.reduceMul, Int32.reduceSub, Int32.reduceLT, Int32.reduceLE, eq_self, i32_10, i32_01, ne_eq, hrow_s, hrow_n, ne10, ne100, ne1000, ne7, ne4, ne14, ne9973, or_true, true_or, or_false, false_or, not_true_eq_false, not_false_eq_true, false_implies, implies_true, and_true, forall_const, true_implies, jargs_n, jargs_r, jargs_i, List.cons_append, List.nil_append, true_and, Nat.reduceEqDiff, reduceIte, ft_X7_metersBy_0, ft_X7_metersBy_1, ft_X7_metersBy_2, ft_X7_metersBy_5, ft_X7_metersBy_6, ft_X7_metersBy_9, ft_X7_metersBy_10, ft_X7_metersBy_13, ft_X7_metersBy_16, ft_X7_metersBy_17, ft_X7_metersBy_19, ft_X7_metersBy_21, ft_X7_metersBy_24, ft_X7_metersBy_25, ft_X7_metersBy_27, ft_X7_metersBy_30, ft_X7_metersBy_31, ft_X7_metersBy_32, ft_X7_metersBy_35, ft_X7_metersBy_38, rc_71, fl_71_11, fp_71_22]
  refine s_X7_meters jmr79 (vf.sr k.s) (by rw [hrow_n (by decide)]; exact i3) ?_
  simp -implicitDefEqProofs only [jr_0, jr_1, jr_2, j_iconst, j_lconst, j_iload0, j_aload0, j_istore0, j_astore0, j_iinc0, j_iload1, j_aload1, j_istore1, j_astore1, j_iinc1, j_iload2, j_aload2, j_istore2, j_astore2, j_iinc2, j_iload3, j_aload3, j_istore3, j_astore3, j_iinc3, j_iload4, j_aload4, j_istore4, j_astore4, j_iinc4, j_iload5, j_aload5, j_istore5, j_astore5, j_iinc5, j_iload6, j_aload6, j_istore6, j_astore6, j_iinc6, j_iload7, j_aload7, j_istore7, j_astore7, j_iinc7, j_iload8, j_aload8, j_istore8, j_astore8, j_iinc8, j_iadd, j_isub, j_imul, j_iand, j_ior, j_ixor, j_ishl, j_ishr, j_iushr, j_idiv, j_irem, j_ineg, j_ladd, j_lmul, j_land, j_lor, j_lcmp, j_lushr, j_lshl, j_i2l, j_l2i, j_dupI, j_dupR, j_popI, j_dup2, j_ifeq, j_iceq, j_ifne, j_icne, j_iflt, j_iclt, j_ifge, j_icge, j_ifgt, j_icgt, j_ifle, j_icle, j_goto, j_tsw, j_sw0, j_sw1, j_ireturn, j_zreturn, j_lreturn, j_return, j_getfield, j_putI, j_putJ, j_putR, j_iaload, j_baload, j_iastore, j_bastore, j_aaload, j_q, j_aastore, j_acopy, j_mmin, j_mmax, j_mabs, j_objinit, j_new, j_newI, j_newQ, j_sld, j_slen, j_callV0, j_callI0, j_callS0, j_callV1, j_callI1, j_callS1, j_callV2, j_callI2, j_callS2, j_callV3, j_callS3, j_callV4, j_callS4, j_callV5, j_callS5, j_pushS, j_pushN, j_sh0, j_sh1, j_sh2, j_sh3, j_sh4, Int32.reduceAdd, Int32.reduceMul, Int32.reduceSub, Int32.reduceLT, Int32.reduceLE, eq_self, i32_10, i32_01, ne_eq, hrow_s, hrow_n, ne10, ne100, ne1000, ne7, ne4, ne14, ne9973, or_true, true_or, or_false, false_or, not_true_eq_false, not_false_eq_true, false_implies, implies_true, and_true, forall_const, true_implies, jargs_n, jargs_r, jargs_i, List.cons_append, List.nil_append, true_and, Nat.reduceEqDiff, reduceIte, ft_X7_metersBy_0, ft_X7_metersBy_1, ft_X7_metersBy_2, ft_X7_metersBy_5, ft_X7_metersBy_6, ft_X7_metersBy_9, ft_X7_metersBy_10, ft_X7_metersBy_13, ft_X7_metersBy_16, ft_X7_metersBy_17, ft_X7_metersBy_19, ft_X7_metersBy_21, ft_X7_metersBy_24, ft_X7_metersBy_25, ft_X7_metersBy_27, ft_X7_metersBy_30, ft_X7_metersBy_31, ft_X7_metersBy_32, ft_X7_metersBy_35, ft_X7_metersBy_38]
  have hq := hQ _ vf (by rw [hrow_n (by decide), r3 88 (Or.inr rfl), r2 88 (by decide), hrow_n (by decide)])
  unfold worF at hq
  rw [← e3] at hq
  exact hq
theorem s_X7_metersBy {nb P K B : Nat} {C C1 : Nat → Nat → Int32} {z : Nat → Int64} {f : Int32} {Q : jQ} (q : AQ C P K B) (v : Ev C C1) (hQ : ∀ C', Ev C C' → C' 88 = C1 88 → Q (some (.int (worF C f))) (memS 94 C' z)) : S_X7_metersBy nb [.ref 71, .int f] (memS 94 C1 z) Q := ⟨C, C1, z, P, K, B, f, rfl, rfl, q, v, hQ⟩
noncomputable def shM (C : Nat → Nat → Int32) (P p : Nat) : Nat → Int32
  | 0 => 0
  | j + 1 => pick (hasP (nI j) (nI p)) (shM C P p j) (shM C P p j + facF (onesF (nI j)) * facF (nI P - 1 - onesF (nI j)) * (worF C (nI (j ||| 2 ^ p)) - worF C (nI j)))
theorem hasP_nI : ∀ f, f < 16 → ∀ p, p < 4 → (((nI f >>> (nI p &&& 31)) &&& 1 = 1) ↔ Nat.testBit f p = true) := by decide +kernel
theorem hasP_n {f p : Nat} (hf : f < 16) (hp : p < 4) : hasP (nI f) (nI p) = (Nat.testBit f p = true) := propext (hasP_nI f hf p hp)
theorem sh_p2 : ∀ P, P ≤ 4 → (1 : Int32) <<< (nI P &&& 31) = nI (2 ^ P) := by decide +kernel
theorem sh_or : ∀ p, p < 4 → ∀ f, f < 16 → nI f ||| (1 : Int32) <<< (nI p &&& 31) = nI (f ||| 2 ^ p) := by decide +kernel
theorem or_lt : ∀ P, P ≤ 4 → ∀ p, p < P → ∀ f, f < 2 ^ P → f ||| 2 ^ p < 2 ^ P := by decide +kernel
theorem ones_okB : ∀ P, P ≤ 4 → ∀ p, p < P → ∀ f, f < 2 ^ P → (Nat.testBit f p || (decide (0 ≤ onesF (nI f)) && (decide (onesF (nI f) ≤ 4) && (decide (0 ≤ nI P - 1 - onesF (nI f)) && decide (nI P - 1 - onesF (nI f) ≤ 4))))) = true := by decide +kernel
theorem ones_ok {P p f : Nat} (h4 : P ≤ 4) (hp : p < P) (hf : f < 2 ^ P) (g : ¬ Nat.testBit f p = true) : (0 ≤ onesF (nI f) ∧ onesF (nI f) ≤ 4) ∧ 0 ≤ nI P - 1 - onesF (nI f) ∧ nI P - 1 - onesF (nI f) ≤ 4 := by
  have h := ones_okB P h4 p hp f hf
  rw [show Nat.testBit f p = false from Bool.eq_false_iff.mpr g, Bool.false_or, Bool.and_eq_true, Bool.and_eq_true, Bool.and_eq_true, decide_eq_true_eq, decide_eq_true_eq, decide_eq_true_eq, decide_eq_true_eq] at h
  exact ⟨⟨h.1, h.2.1⟩, h.2.2.1, h.2.2.2⟩
theorem fac_nI : ∀ P, P ≤ 4 → ∃ b, (0 < b ∧ b < 2 ^ 14) ∧ facF (nI P) = nI b := fun P h => by
  have : P = 0 ∨ P = 1 ∨ P = 2 ∨ P = 3 ∨ P = 4 := by omega
  rcases this with rfl | rfl | rfl | rfl | rfl
  · exact ⟨1, by decide, by decide⟩
  · exact ⟨1, by decide, by decide⟩
  · exact ⟨2, by decide, by decide⟩
  · exact ⟨6, by decide, by decide⟩
  · exact ⟨24, by decide, by decide⟩
def S_X7_share : jSp := fun _ vs mem Q => ∃ C C1 z P K B, ∃ p u : Int32, vs = [.ref 71, .int p, .int u] ∧ mem = memS 94 C1 z ∧ AQ C P K B ∧ Ev C C1 ∧ ∀ C', Ev C C' → Q (some (.int (pick (okPost C p) (fracF (shM C P p.toNatClampNeg (2 ^ P)) (facF (nI P)) u) (-1)))) (memS 94 C' z)
def F_X7_share_0 : Nat → jT := fun pc => (bif Nat.blt pc 8 then (bif Nat.blt pc 2 then (bif Nat.blt pc 1 then (bif Nat.beq pc 0 then J_aload 0 1 else jbad) else (bif Nat.beq pc 1 then J_iload 1 2 else jbad)) else (bif Nat.blt pc 5 then (bif Nat.beq pc 2 then J_callV 7 S_X7_isPost 1 5 else jbad) else (bif Nat.beq pc 5 then J_ifne 10 8 else jbad))) else (bif Nat.blt pc 10 then (bif Nat.blt pc 9 then (bif Nat.beq pc 8 then J_iconst (-1) 9 else jbad) else (bif Nat.beq pc 9 then J_ireturn 0 0 else jbad)) else (bif Nat.blt pc 11 then (bif Nat.beq pc 10 then J_iconst 0 11 else jbad) else (bif Nat.blt pc 12 then (bif Nat.beq pc 11 then J_istore 3 12 else jbad) else (bif Nat.beq pc 12 then J_iload 3 13 else jbad)))))
theorem ftl_X7_share_0 : F_X7_share_0 0 = J_aload 0 1 := rfl
theorem ftl_X7_share_1 : F_X7_share_0 1 = J_iload 1 2 := rfl
theorem ftl_X7_share_2 : F_X7_share_0 2 = J_callV 7 S_X7_isPost 1 5 := rfl
theorem ftl_X7_share_5 : F_X7_share_0 5 = J_ifne 10 8 := rfl
theorem ftl_X7_share_8 : F_X7_share_0 8 = J_iconst (-1) 9 := rfl
theorem ftl_X7_share_9 : F_X7_share_0 9 = J_ireturn 0 0 := rfl
theorem ftl_X7_share_10 : F_X7_share_0 10 = J_iconst 0 11 := rfl
theorem ftl_X7_share_11 : F_X7_share_0 11 = J_istore 3 12 := rfl
theorem ftl_X7_share_12 : F_X7_share_0 12 = J_iload 3 13 := rfl
theorem F_X7_share_0_ok : jOK Y_X7_share none (F_X7_share_0) := (jOK_node (jOK_node (jOK_node (jOK_leaf (sn_aload_n dX7_share_0 rfl rfl)) (jOK_leaf (sn_iload_n dX7_share_1 rfl rfl))) (jOK_node (jOK_leaf (sn_callV (Y' := Y_X7_isPost) ok_X7_isPost dX7_share_2 rfl rfl rfl tw_788 tw_790 tp_33 tw_8 jc_X7_isPost rfl ⟨by decide, by decide, rfl⟩ ⟨by decide, by decide⟩)) (jOK_leaf (sn_ifne dX7_share_5 rfl rfl)))) (jOK_node (jOK_node (jOK_leaf (sn_iconst dX7_share_8 rfl rfl)) (jOK_leaf (sn_ireturn dX7_share_9 rfl rfl))) (jOK_node (jOK_leaf (sn_iconst dX7_share_10 rfl rfl)) (jOK_node (jOK_leaf (sn_istore_n dX7_share_11 rfl rfl (by decide))) (jOK_leaf (sn_iload_n dX7_share_12 rfl rfl))))))
def F_X7_share_13 : Nat → jT := fun pc => (bif Nat.blt pc 22 then (bif Nat.blt pc 15 then (bif Nat.blt pc 14 then (bif Nat.beq pc 13 then J_iconst 1 14 else jbad) else (bif Nat.beq pc 14 then J_aload 0 15 else jbad)) else (bif Nat.blt pc 18 then (bif Nat.beq pc 15 then J_getfield 7 2 18 else jbad) else (bif Nat.blt pc 19 then (bif Nat.beq pc 18 then J_ishl 19 else jbad) else (bif Nat.beq pc 19 then J_icge 39 22 else jbad)))) else (bif Nat.blt pc 26 then (bif Nat.blt pc 23 then (bif Nat.beq pc 22 then J_aload 0 23 else jbad) else (bif Nat.beq pc 23 then J_getfield 7 27 26 else jbad)) else (bif Nat.blt pc 27 then (bif Nat.beq pc 26 then J_iload 3 27 else jbad) else (bif Nat.blt pc 28 then (bif Nat.beq pc 27 then J_aload 0 28 else jbad) else (bif Nat.beq pc 28 then J_iload 3 29 else jbad)))))
theorem ftl_X7_share_13 : F_X7_share_13 13 = J_iconst 1 14 := rfl
theorem ftl_X7_share_14 : F_X7_share_13 14 = J_aload 0 15 := rfl
theorem ftl_X7_share_15 : F_X7_share_13 15 = J_getfield 7 2 18 := rfl
theorem ftl_X7_share_18 : F_X7_share_13 18 = J_ishl 19 := rfl
theorem ftl_X7_share_19 : F_X7_share_13 19 = J_icge 39 22 := rfl
theorem ftl_X7_share_22 : F_X7_share_13 22 = J_aload 0 23 := rfl
theorem ftl_X7_share_23 : F_X7_share_13 23 = J_getfield 7 27 26 := rfl
theorem ftl_X7_share_26 : F_X7_share_13 26 = J_iload 3 27 := rfl
theorem ftl_X7_share_27 : F_X7_share_13 27 = J_aload 0 28 := rfl
theorem ftl_X7_share_28 : F_X7_share_13 28 = J_iload 3 29 := rfl
theorem F_X7_share_13_ok : jOK Y_X7_share none (F_X7_share_13) := (jOK_node (jOK_node (jOK_node (jOK_leaf (sn_iconst dX7_share_13 rfl rfl)) (jOK_leaf (sn_aload_n dX7_share_14 rfl rfl))) (jOK_node (jOK_leaf (sn_getfield dX7_share_15 rfl rfl (by decide) tw_616 jin7)) (jOK_node (jOK_leaf (sn_ishl dX7_share_18 rfl)) (jOK_leaf (sn_icge dX7_share_19 rfl rfl))))) (jOK_node (jOK_node (jOK_leaf (sn_aload_n dX7_share_22 rfl rfl)) (jOK_leaf (sn_getfield dX7_share_23 rfl rfl (by decide) tw_641 jin7))) (jOK_node (jOK_leaf (sn_iload_n dX7_share_26 rfl rfl)) (jOK_node (jOK_leaf (sn_aload_n dX7_share_27 rfl rfl)) (jOK_leaf (sn_iload_n dX7_share_28 rfl rfl))))))
def F_X7_share_0_28 : Nat → jT := fun pc => bif Nat.blt pc 13 then F_X7_share_0 pc else F_X7_share_13 pc
theorem F_X7_share_0_28_l {pc : Nat} (h : Nat.blt pc 13 = true) : F_X7_share_0_28 pc = F_X7_share_0 pc := by unfold F_X7_share_0_28; rw [h]; rfl
theorem F_X7_share_0_28_r {pc : Nat} (h : Nat.blt pc 13 = false) : F_X7_share_0_28 pc = F_X7_share_13 pc := by unfold F_X7_share_0_28; rw [h]; rfl
theorem F_X7_share_0_28_ok : jOK Y_X7_share none (F_X7_share_0_28) := jOK_node (F_X7_share_0_ok) (F_X7_share_13_ok)
def F_X7_share_29 : Nat → jT := fun pc => (bif Nat.blt pc 39 then (bif Nat.blt pc 33 then (bif Nat.blt pc 32 then (bif Nat.beq pc 29 then J_callV 7 S_X7_metersBy 1 32 else jbad) else (bif Nat.beq pc 32 then J_iastore 33 else jbad)) else (bif Nat.blt pc 36 then (bif Nat.beq pc 33 then J_iinc 3 1 36 else jbad) else (bif Nat.beq pc 36 then J_goto 12 else jbad))) else (bif Nat.blt pc 41 then (bif Nat.blt pc 40 then (bif Nat.beq pc 39 then J_iconst 0 40 else jbad) else (bif Nat.beq pc 40 then J_istore 3 41 else jbad)) else (bif Nat.blt pc 42 then (bif Nat.beq pc 41 then J_iconst 0 42 else jbad) else (bif Nat.blt pc 44 then (bif Nat.beq pc 42 then J_istore 4 44 else jbad) else (bif Nat.beq pc 44 then J_iload 4 46 else jbad)))))
theorem ftl_X7_share_29 : F_X7_share_29 29 = J_callV 7 S_X7_metersBy 1 32 := rfl
theorem ftl_X7_share_32 : F_X7_share_29 32 = J_iastore 33 := rfl
theorem ftl_X7_share_33 : F_X7_share_29 33 = J_iinc 3 1 36 := rfl
theorem ftl_X7_share_36 : F_X7_share_29 36 = J_goto 12 := rfl
theorem ftl_X7_share_39 : F_X7_share_29 39 = J_iconst 0 40 := rfl
theorem ftl_X7_share_40 : F_X7_share_29 40 = J_istore 3 41 := rfl
theorem ftl_X7_share_41 : F_X7_share_29 41 = J_iconst 0 42 := rfl
theorem ftl_X7_share_42 : F_X7_share_29 42 = J_istore 4 44 := rfl
theorem ftl_X7_share_44 : F_X7_share_29 44 = J_iload 4 46 := rfl
theorem F_X7_share_29_ok : jOK Y_X7_share none (F_X7_share_29) := (jOK_node (jOK_node (jOK_node (jOK_leaf (sn_callV (Y' := Y_X7_metersBy) ok_X7_metersBy dX7_share_29 rfl rfl rfl tw_984 tw_986 tp_58 tw_8 jc_X7_metersBy rfl ⟨by decide, by decide, rfl⟩ ⟨by decide, by decide⟩)) (jOK_leaf (sn_iastore dX7_share_32 rfl))) (jOK_node (jOK_leaf (sn_iinc dX7_share_33 rfl rfl (by decide))) (jOK_leaf (sn_goto dX7_share_36 rfl)))) (jOK_node (jOK_node (jOK_leaf (sn_iconst dX7_share_39 rfl rfl)) (jOK_leaf (sn_istore_n dX7_share_40 rfl rfl (by decide)))) (jOK_node (jOK_leaf (sn_iconst dX7_share_41 rfl rfl)) (jOK_node (jOK_leaf (sn_istore dX7_share_42 rfl (by decide))) (jOK_leaf (sn_iload dX7_share_44 rfl))))))
def F_X7_share_46 : Nat → jT := fun pc => (bif Nat.blt pc 55 then (bif Nat.blt pc 48 then (bif Nat.blt pc 47 then (bif Nat.beq pc 46 then J_iconst 1 47 else jbad) else (bif Nat.beq pc 47 then J_aload 0 48 else jbad)) else (bif Nat.blt pc 51 then (bif Nat.beq pc 48 then J_getfield 7 2 51 else jbad) else (bif Nat.blt pc 52 then (bif Nat.beq pc 51 then J_ishl 52 else jbad) else (bif Nat.beq pc 52 then J_icge 118 55 else jbad)))) else (bif Nat.blt pc 58 then (bif Nat.blt pc 57 then (bif Nat.beq pc 55 then J_iload 4 57 else jbad) else (bif Nat.beq pc 57 then J_iload 1 58 else jbad)) else (bif Nat.blt pc 61 then (bif Nat.beq pc 58 then J_callS S_X7_has 2 61 else jbad) else (bif Nat.blt pc 64 then (bif Nat.beq pc 61 then J_ifne 112 64 else jbad) else (bif Nat.beq pc 64 then J_iload 4 66 else jbad)))))
theorem ftl_X7_share_46 : F_X7_share_46 46 = J_iconst 1 47 := rfl
theorem ftl_X7_share_47 : F_X7_share_46 47 = J_aload 0 48 := rfl
theorem ftl_X7_share_48 : F_X7_share_46 48 = J_getfield 7 2 51 := rfl
theorem ftl_X7_share_51 : F_X7_share_46 51 = J_ishl 52 := rfl
theorem ftl_X7_share_52 : F_X7_share_46 52 = J_icge 118 55 := rfl
theorem ftl_X7_share_55 : F_X7_share_46 55 = J_iload 4 57 := rfl
theorem ftl_X7_share_57 : F_X7_share_46 57 = J_iload 1 58 := rfl
theorem ftl_X7_share_58 : F_X7_share_46 58 = J_callS S_X7_has 2 61 := rfl
theorem ftl_X7_share_61 : F_X7_share_46 61 = J_ifne 112 64 := rfl
theorem ftl_X7_share_64 : F_X7_share_46 64 = J_iload 4 66 := rfl
theorem F_X7_share_46_ok : jOK Y_X7_share none (F_X7_share_46) := (jOK_node (jOK_node (jOK_node (jOK_leaf (sn_iconst dX7_share_46 rfl rfl)) (jOK_leaf (sn_aload_n dX7_share_47 rfl rfl))) (jOK_node (jOK_leaf (sn_getfield dX7_share_48 rfl rfl (by decide) tw_616 jin7)) (jOK_node (jOK_leaf (sn_ishl dX7_share_51 rfl)) (jOK_leaf (sn_icge dX7_share_52 rfl rfl))))) (jOK_node (jOK_node (jOK_leaf (sn_iload dX7_share_55 rfl)) (jOK_leaf (sn_iload_n dX7_share_57 rfl rfl))) (jOK_node (jOK_leaf (sn_callS (Y' := Y_X7_has) ok_X7_has dX7_share_58 rfl rfl tw_804 tw_805 tw_8 jc_X7_has ⟨by decide, by decide, rfl⟩ ⟨by decide, by decide⟩)) (jOK_node (jOK_leaf (sn_ifne dX7_share_61 rfl rfl)) (jOK_leaf (sn_iload dX7_share_64 rfl))))))
def F_X7_share_29_64 : Nat → jT := fun pc => bif Nat.blt pc 46 then F_X7_share_29 pc else F_X7_share_46 pc
theorem F_X7_share_29_64_l {pc : Nat} (h : Nat.blt pc 46 = true) : F_X7_share_29_64 pc = F_X7_share_29 pc := by unfold F_X7_share_29_64; rw [h]; rfl
theorem F_X7_share_29_64_r {pc : Nat} (h : Nat.blt pc 46 = false) : F_X7_share_29_64 pc = F_X7_share_46 pc := by unfold F_X7_share_29_64; rw [h]; rfl
theorem F_X7_share_29_64_ok : jOK Y_X7_share none (F_X7_share_29_64) := jOK_node (F_X7_share_29_ok) (F_X7_share_46_ok)
def F_X7_share_0_64 : Nat → jT := fun pc => bif Nat.blt pc 29 then F_X7_share_0_28 pc else F_X7_share_29_64 pc
theorem F_X7_share_0_64_l {pc : Nat} (h : Nat.blt pc 29 = true) : F_X7_share_0_64 pc = F_X7_share_0_28 pc := by unfold F_X7_share_0_64; rw [h]; rfl
theorem F_X7_share_0_64_r {pc : Nat} (h : Nat.blt pc 29 = false) : F_X7_share_0_64 pc = F_X7_share_29_64 pc := by unfold F_X7_share_0_64; rw [h]; rfl
theorem F_X7_share_0_64_ok : jOK Y_X7_share none (F_X7_share_0_64) := jOK_node (F_X7_share_0_28_ok) (F_X7_share_29_64_ok)
def F_X7_share_66 : Nat → jT := fun pc => (bif Nat.blt pc 74 then (bif Nat.blt pc 71 then (bif Nat.blt pc 69 then (bif Nat.beq pc 66 then J_callS S_X7_ones 1 69 else jbad) else (bif Nat.beq pc 69 then J_istore 5 71 else jbad)) else (bif Nat.blt pc 72 then (bif Nat.beq pc 71 then J_iload 3 72 else jbad) else (bif Nat.beq pc 72 then J_iload 5 74 else jbad))) else (bif Nat.blt pc 78 then (bif Nat.blt pc 77 then (bif Nat.beq pc 74 then J_callS S_X7_factorial 1 77 else jbad) else (bif Nat.beq pc 77 then J_aload 0 78 else jbad)) else (bif Nat.blt pc 81 then (bif Nat.beq pc 78 then J_getfield 7 2 81 else jbad) else (bif Nat.blt pc 82 then (bif Nat.beq pc 81 then J_iconst 1 82 else jbad) else (bif Nat.beq pc 82 then J_isub 83 else jbad)))))
theorem ftl_X7_share_66 : F_X7_share_66 66 = J_callS S_X7_ones 1 69 := rfl
theorem ftl_X7_share_69 : F_X7_share_66 69 = J_istore 5 71 := rfl
theorem ftl_X7_share_71 : F_X7_share_66 71 = J_iload 3 72 := rfl
theorem ftl_X7_share_72 : F_X7_share_66 72 = J_iload 5 74 := rfl
theorem ftl_X7_share_74 : F_X7_share_66 74 = J_callS S_X7_factorial 1 77 := rfl
theorem ftl_X7_share_77 : F_X7_share_66 77 = J_aload 0 78 := rfl
theorem ftl_X7_share_78 : F_X7_share_66 78 = J_getfield 7 2 81 := rfl
theorem ftl_X7_share_81 : F_X7_share_66 81 = J_iconst 1 82 := rfl
theorem ftl_X7_share_82 : F_X7_share_66 82 = J_isub 83 := rfl
theorem F_X7_share_66_ok : jOK Y_X7_share none (F_X7_share_66) := (jOK_node (jOK_node (jOK_node (jOK_leaf (sn_callS (Y' := Y_X7_ones) ok_X7_ones dX7_share_66 rfl rfl tw_908 tw_909 tw_8 jc_X7_ones ⟨by decide, by decide, rfl⟩ ⟨by decide, by decide⟩)) (jOK_leaf (sn_istore dX7_share_69 rfl (by decide)))) (jOK_node (jOK_leaf (sn_iload_n dX7_share_71 rfl rfl)) (jOK_leaf (sn_iload dX7_share_72 rfl)))) (jOK_node (jOK_node (jOK_leaf (sn_callS (Y' := Y_X7_factorial) ok_X7_factorial dX7_share_74 rfl rfl tw_988 tw_989 tw_8 jc_X7_factorial ⟨by decide, by decide, rfl⟩ ⟨by decide, by decide⟩)) (jOK_leaf (sn_aload_n dX7_share_77 rfl rfl))) (jOK_node (jOK_leaf (sn_getfield dX7_share_78 rfl rfl (by decide) tw_616 jin7)) (jOK_node (jOK_leaf (sn_iconst dX7_share_81 rfl rfl)) (jOK_leaf (sn_isub dX7_share_82 rfl))))))
def F_X7_share_83 : Nat → jT := fun pc => (bif Nat.blt pc 91 then (bif Nat.blt pc 86 then (bif Nat.blt pc 85 then (bif Nat.beq pc 83 then J_iload 5 85 else jbad) else (bif Nat.beq pc 85 then J_isub 86 else jbad)) else (bif Nat.blt pc 89 then (bif Nat.beq pc 86 then J_callS S_X7_factorial 1 89 else jbad) else (bif Nat.blt pc 90 then (bif Nat.beq pc 89 then J_imul 90 else jbad) else (bif Nat.beq pc 90 then J_aload 0 91 else jbad)))) else (bif Nat.blt pc 96 then (bif Nat.blt pc 94 then (bif Nat.beq pc 91 then J_getfield 7 27 94 else jbad) else (bif Nat.beq pc 94 then J_iload 4 96 else jbad)) else (bif Nat.blt pc 97 then (bif Nat.beq pc 96 then J_iconst 1 97 else jbad) else (bif Nat.blt pc 98 then (bif Nat.beq pc 97 then J_iload 1 98 else jbad) else (bif Nat.beq pc 98 then J_ishl 99 else jbad)))))
theorem ftl_X7_share_83 : F_X7_share_83 83 = J_iload 5 85 := rfl
theorem ftl_X7_share_85 : F_X7_share_83 85 = J_isub 86 := rfl
theorem ftl_X7_share_86 : F_X7_share_83 86 = J_callS S_X7_factorial 1 89 := rfl
theorem ftl_X7_share_89 : F_X7_share_83 89 = J_imul 90 := rfl
theorem ftl_X7_share_90 : F_X7_share_83 90 = J_aload 0 91 := rfl
theorem ftl_X7_share_91 : F_X7_share_83 91 = J_getfield 7 27 94 := rfl
theorem ftl_X7_share_94 : F_X7_share_83 94 = J_iload 4 96 := rfl
theorem ftl_X7_share_96 : F_X7_share_83 96 = J_iconst 1 97 := rfl
theorem ftl_X7_share_97 : F_X7_share_83 97 = J_iload 1 98 := rfl
theorem ftl_X7_share_98 : F_X7_share_83 98 = J_ishl 99 := rfl
theorem F_X7_share_83_ok : jOK Y_X7_share none (F_X7_share_83) := (jOK_node (jOK_node (jOK_node (jOK_leaf (sn_iload dX7_share_83 rfl)) (jOK_leaf (sn_isub dX7_share_85 rfl))) (jOK_node (jOK_leaf (sn_callS (Y' := Y_X7_factorial) ok_X7_factorial dX7_share_86 rfl rfl tw_988 tw_989 tw_8 jc_X7_factorial ⟨by decide, by decide, rfl⟩ ⟨by decide, by decide⟩)) (jOK_node (jOK_leaf (sn_imul dX7_share_89 rfl)) (jOK_leaf (sn_aload_n dX7_share_90 rfl rfl))))) (jOK_node (jOK_node (jOK_leaf (sn_getfield dX7_share_91 rfl rfl (by decide) tw_641 jin7)) (jOK_leaf (sn_iload dX7_share_94 rfl))) (jOK_node (jOK_leaf (sn_iconst dX7_share_96 rfl rfl)) (jOK_node (jOK_leaf (sn_iload_n dX7_share_97 rfl rfl)) (jOK_leaf (sn_ishl dX7_share_98 rfl))))))
def F_X7_share_66_98 : Nat → jT := fun pc => bif Nat.blt pc 83 then F_X7_share_66 pc else F_X7_share_83 pc
theorem F_X7_share_66_98_l {pc : Nat} (h : Nat.blt pc 83 = true) : F_X7_share_66_98 pc = F_X7_share_66 pc := by unfold F_X7_share_66_98; rw [h]; rfl
theorem F_X7_share_66_98_r {pc : Nat} (h : Nat.blt pc 83 = false) : F_X7_share_66_98 pc = F_X7_share_83 pc := by unfold F_X7_share_66_98; rw [h]; rfl
theorem F_X7_share_66_98_ok : jOK Y_X7_share none (F_X7_share_66_98) := jOK_node (F_X7_share_66_ok) (F_X7_share_83_ok)
def F_X7_share_99 : Nat → jT := fun pc => (bif Nat.blt pc 105 then (bif Nat.blt pc 101 then (bif Nat.blt pc 100 then (bif Nat.beq pc 99 then J_ior 100 else jbad) else (bif Nat.beq pc 100 then J_iaload 101 else jbad)) else (bif Nat.blt pc 102 then (bif Nat.beq pc 101 then J_aload 0 102 else jbad) else (bif Nat.beq pc 102 then J_getfield 7 27 105 else jbad))) else (bif Nat.blt pc 108 then (bif Nat.blt pc 107 then (bif Nat.beq pc 105 then J_iload 4 107 else jbad) else (bif Nat.beq pc 107 then J_iaload 108 else jbad)) else (bif Nat.blt pc 109 then (bif Nat.beq pc 108 then J_isub 109 else jbad) else (bif Nat.blt pc 110 then (bif Nat.beq pc 109 then J_imul 110 else jbad) else (bif Nat.beq pc 110 then J_iadd 111 else jbad)))))
theorem ftl_X7_share_99 : F_X7_share_99 99 = J_ior 100 := rfl
theorem ftl_X7_share_100 : F_X7_share_99 100 = J_iaload 101 := rfl
theorem ftl_X7_share_101 : F_X7_share_99 101 = J_aload 0 102 := rfl
theorem ftl_X7_share_102 : F_X7_share_99 102 = J_getfield 7 27 105 := rfl
theorem ftl_X7_share_105 : F_X7_share_99 105 = J_iload 4 107 := rfl
theorem ftl_X7_share_107 : F_X7_share_99 107 = J_iaload 108 := rfl
theorem ftl_X7_share_108 : F_X7_share_99 108 = J_isub 109 := rfl
theorem ftl_X7_share_109 : F_X7_share_99 109 = J_imul 110 := rfl
theorem ftl_X7_share_110 : F_X7_share_99 110 = J_iadd 111 := rfl
theorem F_X7_share_99_ok : jOK Y_X7_share none (F_X7_share_99) := (jOK_node (jOK_node (jOK_node (jOK_leaf (sn_ior dX7_share_99 rfl)) (jOK_leaf (sn_iaload dX7_share_100 rfl))) (jOK_node (jOK_leaf (sn_aload_n dX7_share_101 rfl rfl)) (jOK_leaf (sn_getfield dX7_share_102 rfl rfl (by decide) tw_641 jin7)))) (jOK_node (jOK_node (jOK_leaf (sn_iload dX7_share_105 rfl)) (jOK_leaf (sn_iaload dX7_share_107 rfl))) (jOK_node (jOK_leaf (sn_isub dX7_share_108 rfl)) (jOK_node (jOK_leaf (sn_imul dX7_share_109 rfl)) (jOK_leaf (sn_iadd dX7_share_110 rfl))))))
def F_X7_share_111 : Nat → jT := fun pc => (bif Nat.blt pc 120 then (bif Nat.blt pc 115 then (bif Nat.blt pc 112 then (bif Nat.beq pc 111 then J_istore 3 112 else jbad) else (bif Nat.beq pc 112 then J_iinc 4 1 115 else jbad)) else (bif Nat.blt pc 118 then (bif Nat.beq pc 115 then J_goto 44 else jbad) else (bif Nat.blt pc 119 then (bif Nat.beq pc 118 then J_iload 3 119 else jbad) else (bif Nat.beq pc 119 then J_aload 0 120 else jbad)))) else (bif Nat.blt pc 126 then (bif Nat.blt pc 123 then (bif Nat.beq pc 120 then J_getfield 7 2 123 else jbad) else (bif Nat.beq pc 123 then J_callS S_X7_factorial 1 126 else jbad)) else (bif Nat.blt pc 127 then (bif Nat.beq pc 126 then J_iload 2 127 else jbad) else (bif Nat.blt pc 130 then (bif Nat.beq pc 127 then J_callS S_X7_fraction 3 130 else jbad) else (bif Nat.beq pc 130 then J_ireturn 0 0 else jbad)))))
theorem ftl_X7_share_111 : F_X7_share_111 111 = J_istore 3 112 := rfl
theorem ftl_X7_share_112 : F_X7_share_111 112 = J_iinc 4 1 115 := rfl
theorem ftl_X7_share_115 : F_X7_share_111 115 = J_goto 44 := rfl
theorem ftl_X7_share_118 : F_X7_share_111 118 = J_iload 3 119 := rfl
theorem ftl_X7_share_119 : F_X7_share_111 119 = J_aload 0 120 := rfl
theorem ftl_X7_share_120 : F_X7_share_111 120 = J_getfield 7 2 123 := rfl
theorem ftl_X7_share_123 : F_X7_share_111 123 = J_callS S_X7_factorial 1 126 := rfl
theorem ftl_X7_share_126 : F_X7_share_111 126 = J_iload 2 127 := rfl
theorem ftl_X7_share_127 : F_X7_share_111 127 = J_callS S_X7_fraction 3 130 := rfl
theorem ftl_X7_share_130 : F_X7_share_111 130 = J_ireturn 0 0 := rfl
theorem F_X7_share_111_ok : jOK Y_X7_share none (F_X7_share_111) := (jOK_node (jOK_node (jOK_node (jOK_leaf (sn_istore_n dX7_share_111 rfl rfl (by decide))) (jOK_leaf (sn_iinc dX7_share_112 rfl rfl (by decide)))) (jOK_node (jOK_leaf (sn_goto dX7_share_115 rfl)) (jOK_node (jOK_leaf (sn_iload_n dX7_share_118 rfl rfl)) (jOK_leaf (sn_aload_n dX7_share_119 rfl rfl))))) (jOK_node (jOK_node (jOK_leaf (sn_getfield dX7_share_120 rfl rfl (by decide) tw_616 jin7)) (jOK_leaf (sn_callS (Y' := Y_X7_factorial) ok_X7_factorial dX7_share_123 rfl rfl tw_988 tw_989 tw_8 jc_X7_factorial ⟨by decide, by decide, rfl⟩ ⟨by decide, by decide⟩))) (jOK_node (jOK_leaf (sn_iload_n dX7_share_126 rfl rfl)) (jOK_node (jOK_leaf (sn_callS (Y' := Y_X7_fraction) ok_X7_fraction dX7_share_127 rfl rfl tw_991 tw_992 tw_8 jc_X7_fraction ⟨by decide, by decide, rfl⟩ ⟨by decide, by decide⟩)) (jOK_leaf (sn_ireturn dX7_share_130 rfl rfl))))))
def F_X7_share_99_130 : Nat → jT := fun pc => bif Nat.blt pc 111 then F_X7_share_99 pc else F_X7_share_111 pc
theorem F_X7_share_99_130_l {pc : Nat} (h : Nat.blt pc 111 = true) : F_X7_share_99_130 pc = F_X7_share_99 pc := by unfold F_X7_share_99_130; rw [h]; rfl
theorem F_X7_share_99_130_r {pc : Nat} (h : Nat.blt pc 111 = false) : F_X7_share_99_130 pc = F_X7_share_111 pc := by unfold F_X7_share_99_130; rw [h]; rfl
theorem F_X7_share_99_130_ok : jOK Y_X7_share none (F_X7_share_99_130) := jOK_node (F_X7_share_99_ok) (F_X7_share_111_ok)
def F_X7_share_66_130 : Nat → jT := fun pc => bif Nat.blt pc 99 then F_X7_share_66_98 pc else F_X7_share_99_130 pc
theorem F_X7_share_66_130_l {pc : Nat} (h : Nat.blt pc 99 = true) : F_X7_share_66_130 pc = F_X7_share_66_98 pc := by unfold F_X7_share_66_130; rw [h]; rfl
theorem F_X7_share_66_130_r {pc : Nat} (h : Nat.blt pc 99 = false) : F_X7_share_66_130 pc = F_X7_share_99_130 pc := by unfold F_X7_share_66_130; rw [h]; rfl
theorem F_X7_share_66_130_ok : jOK Y_X7_share none (F_X7_share_66_130) := jOK_node (F_X7_share_66_98_ok) (F_X7_share_99_130_ok)
def F_X7_share_0_130 : Nat → jT := fun pc => bif Nat.blt pc 66 then F_X7_share_0_64 pc else F_X7_share_66_130 pc
theorem F_X7_share_0_130_l {pc : Nat} (h : Nat.blt pc 66 = true) : F_X7_share_0_130 pc = F_X7_share_0_64 pc := by unfold F_X7_share_0_130; rw [h]; rfl
theorem F_X7_share_0_130_r {pc : Nat} (h : Nat.blt pc 66 = false) : F_X7_share_0_130 pc = F_X7_share_66_130 pc := by unfold F_X7_share_0_130; rw [h]; rfl
theorem F_X7_share_0_130_ok : jOK Y_X7_share none (F_X7_share_0_130) := jOK_node (F_X7_share_0_64_ok) (F_X7_share_66_130_ok)
def F_X7_share : Nat → jT := F_X7_share_0_130
theorem OK_X7_share : jOK Y_X7_share none (F_X7_share) := F_X7_share_0_130_ok
theorem ft_X7_share_0 : F_X7_share 0 = J_aload 0 1 := (F_X7_share_0_130_l rfl).trans ((F_X7_share_0_64_l rfl).trans ((F_X7_share_0_28_l rfl).trans (ftl_X7_share_0)))
theorem ft_X7_share_1 : F_X7_share 1 = J_iload 1 2 := (F_X7_share_0_130_l rfl).trans ((F_X7_share_0_64_l rfl).trans ((F_X7_share_0_28_l rfl).trans (ftl_X7_share_1)))
theorem ft_X7_share_2 : F_X7_share 2 = J_callV 7 S_X7_isPost 1 5 := (F_X7_share_0_130_l rfl).trans ((F_X7_share_0_64_l rfl).trans ((F_X7_share_0_28_l rfl).trans (ftl_X7_share_2)))
theorem ft_X7_share_5 : F_X7_share 5 = J_ifne 10 8 := (F_X7_share_0_130_l rfl).trans ((F_X7_share_0_64_l rfl).trans ((F_X7_share_0_28_l rfl).trans (ftl_X7_share_5)))
theorem ft_X7_share_8 : F_X7_share 8 = J_iconst (-1) 9 := (F_X7_share_0_130_l rfl).trans ((F_X7_share_0_64_l rfl).trans ((F_X7_share_0_28_l rfl).trans (ftl_X7_share_8)))
theorem ft_X7_share_9 : F_X7_share 9 = J_ireturn 0 0 := (F_X7_share_0_130_l rfl).trans ((F_X7_share_0_64_l rfl).trans ((F_X7_share_0_28_l rfl).trans (ftl_X7_share_9)))
theorem ft_X7_share_10 : F_X7_share 10 = J_iconst 0 11 := (F_X7_share_0_130_l rfl).trans ((F_X7_share_0_64_l rfl).trans ((F_X7_share_0_28_l rfl).trans (ftl_X7_share_10)))
theorem ft_X7_share_11 : F_X7_share 11 = J_istore 3 12 := (F_X7_share_0_130_l rfl).trans ((F_X7_share_0_64_l rfl).trans ((F_X7_share_0_28_l rfl).trans (ftl_X7_share_11)))
theorem ft_X7_share_12 : F_X7_share 12 = J_iload 3 13 := (F_X7_share_0_130_l rfl).trans ((F_X7_share_0_64_l rfl).trans ((F_X7_share_0_28_l rfl).trans (ftl_X7_share_12)))
theorem ft_X7_share_13 : F_X7_share 13 = J_iconst 1 14 := (F_X7_share_0_130_l rfl).trans ((F_X7_share_0_64_l rfl).trans ((F_X7_share_0_28_r rfl).trans (ftl_X7_share_13)))
theorem ft_X7_share_14 : F_X7_share 14 = J_aload 0 15 := (F_X7_share_0_130_l rfl).trans ((F_X7_share_0_64_l rfl).trans ((F_X7_share_0_28_r rfl).trans (ftl_X7_share_14)))
theorem ft_X7_share_15 : F_X7_share 15 = J_getfield 7 2 18 := (F_X7_share_0_130_l rfl).trans ((F_X7_share_0_64_l rfl).trans ((F_X7_share_0_28_r rfl).trans (ftl_X7_share_15)))
theorem ft_X7_share_18 : F_X7_share 18 = J_ishl 19 := (F_X7_share_0_130_l rfl).trans ((F_X7_share_0_64_l rfl).trans ((F_X7_share_0_28_r rfl).trans (ftl_X7_share_18)))
theorem ft_X7_share_19 : F_X7_share 19 = J_icge 39 22 := (F_X7_share_0_130_l rfl).trans ((F_X7_share_0_64_l rfl).trans ((F_X7_share_0_28_r rfl).trans (ftl_X7_share_19)))
theorem ft_X7_share_22 : F_X7_share 22 = J_aload 0 23 := (F_X7_share_0_130_l rfl).trans ((F_X7_share_0_64_l rfl).trans ((F_X7_share_0_28_r rfl).trans (ftl_X7_share_22)))
theorem ft_X7_share_23 : F_X7_share 23 = J_getfield 7 27 26 := (F_X7_share_0_130_l rfl).trans ((F_X7_share_0_64_l rfl).trans ((F_X7_share_0_28_r rfl).trans (ftl_X7_share_23)))
theorem ft_X7_share_26 : F_X7_share 26 = J_iload 3 27 := (F_X7_share_0_130_l rfl).trans ((F_X7_share_0_64_l rfl).trans ((F_X7_share_0_28_r rfl).trans (ftl_X7_share_26)))
theorem ft_X7_share_27 : F_X7_share 27 = J_aload 0 28 := (F_X7_share_0_130_l rfl).trans ((F_X7_share_0_64_l rfl).trans ((F_X7_share_0_28_r rfl).trans (ftl_X7_share_27)))
theorem ft_X7_share_28 : F_X7_share 28 = J_iload 3 29 := (F_X7_share_0_130_l rfl).trans ((F_X7_share_0_64_l rfl).trans ((F_X7_share_0_28_r rfl).trans (ftl_X7_share_28)))
theorem ft_X7_share_29 : F_X7_share 29 = J_callV 7 S_X7_metersBy 1 32 := (F_X7_share_0_130_l rfl).trans ((F_X7_share_0_64_r rfl).trans ((F_X7_share_29_64_l rfl).trans (ftl_X7_share_29)))
theorem ft_X7_share_32 : F_X7_share 32 = J_iastore 33 := (F_X7_share_0_130_l rfl).trans ((F_X7_share_0_64_r rfl).trans ((F_X7_share_29_64_l rfl).trans (ftl_X7_share_32)))
theorem ft_X7_share_33 : F_X7_share 33 = J_iinc 3 1 36 := (F_X7_share_0_130_l rfl).trans ((F_X7_share_0_64_r rfl).trans ((F_X7_share_29_64_l rfl).trans (ftl_X7_share_33)))
theorem ft_X7_share_36 : F_X7_share 36 = J_goto 12 := (F_X7_share_0_130_l rfl).trans ((F_X7_share_0_64_r rfl).trans ((F_X7_share_29_64_l rfl).trans (ftl_X7_share_36)))
theorem ft_X7_share_39 : F_X7_share 39 = J_iconst 0 40 := (F_X7_share_0_130_l rfl).trans ((F_X7_share_0_64_r rfl).trans ((F_X7_share_29_64_l rfl).trans (ftl_X7_share_39)))
theorem ft_X7_share_40 : F_X7_share 40 = J_istore 3 41 := (F_X7_share_0_130_l rfl).trans ((F_X7_share_0_64_r rfl).trans ((F_X7_share_29_64_l rfl).trans (ftl_X7_share_40)))
theorem ft_X7_share_41 : F_X7_share 41 = J_iconst 0 42 := (F_X7_share_0_130_l rfl).trans ((F_X7_share_0_64_r rfl).trans ((F_X7_share_29_64_l rfl).trans (ftl_X7_share_41)))
theorem ft_X7_share_42 : F_X7_share 42 = J_istore 4 44 := (F_X7_share_0_130_l rfl).trans ((F_X7_share_0_64_r rfl).trans ((F_X7_share_29_64_l rfl).trans (ftl_X7_share_42)))
theorem ft_X7_share_44 : F_X7_share 44 = J_iload 4 46 := (F_X7_share_0_130_l rfl).trans ((F_X7_share_0_64_r rfl).trans ((F_X7_share_29_64_l rfl).trans (ftl_X7_share_44)))
theorem ft_X7_share_46 : F_X7_share 46 = J_iconst 1 47 := (F_X7_share_0_130_l rfl).trans ((F_X7_share_0_64_r rfl).trans ((F_X7_share_29_64_r rfl).trans (ftl_X7_share_46)))
theorem ft_X7_share_47 : F_X7_share 47 = J_aload 0 48 := (F_X7_share_0_130_l rfl).trans ((F_X7_share_0_64_r rfl).trans ((F_X7_share_29_64_r rfl).trans (ftl_X7_share_47)))
theorem ft_X7_share_48 : F_X7_share 48 = J_getfield 7 2 51 := (F_X7_share_0_130_l rfl).trans ((F_X7_share_0_64_r rfl).trans ((F_X7_share_29_64_r rfl).trans (ftl_X7_share_48)))
theorem ft_X7_share_51 : F_X7_share 51 = J_ishl 52 := (F_X7_share_0_130_l rfl).trans ((F_X7_share_0_64_r rfl).trans ((F_X7_share_29_64_r rfl).trans (ftl_X7_share_51)))
theorem ft_X7_share_52 : F_X7_share 52 = J_icge 118 55 := (F_X7_share_0_130_l rfl).trans ((F_X7_share_0_64_r rfl).trans ((F_X7_share_29_64_r rfl).trans (ftl_X7_share_52)))
theorem ft_X7_share_55 : F_X7_share 55 = J_iload 4 57 := (F_X7_share_0_130_l rfl).trans ((F_X7_share_0_64_r rfl).trans ((F_X7_share_29_64_r rfl).trans (ftl_X7_share_55)))
theorem ft_X7_share_57 : F_X7_share 57 = J_iload 1 58 := (F_X7_share_0_130_l rfl).trans ((F_X7_share_0_64_r rfl).trans ((F_X7_share_29_64_r rfl).trans (ftl_X7_share_57)))
theorem ft_X7_share_58 : F_X7_share 58 = J_callS S_X7_has 2 61 := (F_X7_share_0_130_l rfl).trans ((F_X7_share_0_64_r rfl).trans ((F_X7_share_29_64_r rfl).trans (ftl_X7_share_58)))
theorem ft_X7_share_61 : F_X7_share 61 = J_ifne 112 64 := (F_X7_share_0_130_l rfl).trans ((F_X7_share_0_64_r rfl).trans ((F_X7_share_29_64_r rfl).trans (ftl_X7_share_61)))
theorem ft_X7_share_64 : F_X7_share 64 = J_iload 4 66 := (F_X7_share_0_130_l rfl).trans ((F_X7_share_0_64_r rfl).trans ((F_X7_share_29_64_r rfl).trans (ftl_X7_share_64)))
theorem ft_X7_share_66 : F_X7_share 66 = J_callS S_X7_ones 1 69 := (F_X7_share_0_130_r rfl).trans ((F_X7_share_66_130_l rfl).trans ((F_X7_share_66_98_l rfl).trans (ftl_X7_share_66)))
theorem ft_X7_share_69 : F_X7_share 69 = J_istore 5 71 := (F_X7_share_0_130_r rfl).trans ((F_X7_share_66_130_l rfl).trans ((F_X7_share_66_98_l rfl).trans (ftl_X7_share_69)))
theorem ft_X7_share_71 : F_X7_share 71 = J_iload 3 72 := (F_X7_share_0_130_r rfl).trans ((F_X7_share_66_130_l rfl).trans ((F_X7_share_66_98_l rfl).trans (ftl_X7_share_71)))
theorem ft_X7_share_72 : F_X7_share 72 = J_iload 5 74 := (F_X7_share_0_130_r rfl).trans ((F_X7_share_66_130_l rfl).trans ((F_X7_share_66_98_l rfl).trans (ftl_X7_share_72)))
theorem ft_X7_share_74 : F_X7_share 74 = J_callS S_X7_factorial 1 77 := (F_X7_share_0_130_r rfl).trans ((F_X7_share_66_130_l rfl).trans ((F_X7_share_66_98_l rfl).trans (ftl_X7_share_74)))
theorem ft_X7_share_77 : F_X7_share 77 = J_aload 0 78 := (F_X7_share_0_130_r rfl).trans ((F_X7_share_66_130_l rfl).trans ((F_X7_share_66_98_l rfl).trans (ftl_X7_share_77)))
theorem ft_X7_share_78 : F_X7_share 78 = J_getfield 7 2 81 := (F_X7_share_0_130_r rfl).trans ((F_X7_share_66_130_l rfl).trans ((F_X7_share_66_98_l rfl).trans (ftl_X7_share_78)))
theorem ft_X7_share_81 : F_X7_share 81 = J_iconst 1 82 := (F_X7_share_0_130_r rfl).trans ((F_X7_share_66_130_l rfl).trans ((F_X7_share_66_98_l rfl).trans (ftl_X7_share_81)))
theorem ft_X7_share_82 : F_X7_share 82 = J_isub 83 := (F_X7_share_0_130_r rfl).trans ((F_X7_share_66_130_l rfl).trans ((F_X7_share_66_98_l rfl).trans (ftl_X7_share_82)))
theorem ft_X7_share_83 : F_X7_share 83 = J_iload 5 85 := (F_X7_share_0_130_r rfl).trans ((F_X7_share_66_130_l rfl).trans ((F_X7_share_66_98_r rfl).trans (ftl_X7_share_83)))
theorem ft_X7_share_85 : F_X7_share 85 = J_isub 86 := (F_X7_share_0_130_r rfl).trans ((F_X7_share_66_130_l rfl).trans ((F_X7_share_66_98_r rfl).trans (ftl_X7_share_85)))
theorem ft_X7_share_86 : F_X7_share 86 = J_callS S_X7_factorial 1 89 := (F_X7_share_0_130_r rfl).trans ((F_X7_share_66_130_l rfl).trans ((F_X7_share_66_98_r rfl).trans (ftl_X7_share_86)))
theorem ft_X7_share_89 : F_X7_share 89 = J_imul 90 := (F_X7_share_0_130_r rfl).trans ((F_X7_share_66_130_l rfl).trans ((F_X7_share_66_98_r rfl).trans (ftl_X7_share_89)))
theorem ft_X7_share_90 : F_X7_share 90 = J_aload 0 91 := (F_X7_share_0_130_r rfl).trans ((F_X7_share_66_130_l rfl).trans ((F_X7_share_66_98_r rfl).trans (ftl_X7_share_90)))
theorem ft_X7_share_91 : F_X7_share 91 = J_getfield 7 27 94 := (F_X7_share_0_130_r rfl).trans ((F_X7_share_66_130_l rfl).trans ((F_X7_share_66_98_r rfl).trans (ftl_X7_share_91)))
theorem ft_X7_share_94 : F_X7_share 94 = J_iload 4 96 := (F_X7_share_0_130_r rfl).trans ((F_X7_share_66_130_l rfl).trans ((F_X7_share_66_98_r rfl).trans (ftl_X7_share_94)))
theorem ft_X7_share_96 : F_X7_share 96 = J_iconst 1 97 := (F_X7_share_0_130_r rfl).trans ((F_X7_share_66_130_l rfl).trans ((F_X7_share_66_98_r rfl).trans (ftl_X7_share_96)))
theorem ft_X7_share_97 : F_X7_share 97 = J_iload 1 98 := (F_X7_share_0_130_r rfl).trans ((F_X7_share_66_130_l rfl).trans ((F_X7_share_66_98_r rfl).trans (ftl_X7_share_97)))
theorem ft_X7_share_98 : F_X7_share 98 = J_ishl 99 := (F_X7_share_0_130_r rfl).trans ((F_X7_share_66_130_l rfl).trans ((F_X7_share_66_98_r rfl).trans (ftl_X7_share_98)))
theorem ft_X7_share_99 : F_X7_share 99 = J_ior 100 := (F_X7_share_0_130_r rfl).trans ((F_X7_share_66_130_r rfl).trans ((F_X7_share_99_130_l rfl).trans (ftl_X7_share_99)))
theorem ft_X7_share_100 : F_X7_share 100 = J_iaload 101 := (F_X7_share_0_130_r rfl).trans ((F_X7_share_66_130_r rfl).trans ((F_X7_share_99_130_l rfl).trans (ftl_X7_share_100)))
theorem ft_X7_share_101 : F_X7_share 101 = J_aload 0 102 := (F_X7_share_0_130_r rfl).trans ((F_X7_share_66_130_r rfl).trans ((F_X7_share_99_130_l rfl).trans (ftl_X7_share_101)))
theorem ft_X7_share_102 : F_X7_share 102 = J_getfield 7 27 105 := (F_X7_share_0_130_r rfl).trans ((F_X7_share_66_130_r rfl).trans ((F_X7_share_99_130_l rfl).trans (ftl_X7_share_102)))
theorem ft_X7_share_105 : F_X7_share 105 = J_iload 4 107 := (F_X7_share_0_130_r rfl).trans ((F_X7_share_66_130_r rfl).trans ((F_X7_share_99_130_l rfl).trans (ftl_X7_share_105)))
theorem ft_X7_share_107 : F_X7_share 107 = J_iaload 108 := (F_X7_share_0_130_r rfl).trans ((F_X7_share_66_130_r rfl).trans ((F_X7_share_99_130_l rfl).trans (ftl_X7_share_107)))
theorem ft_X7_share_108 : F_X7_share 108 = J_isub 109 := (F_X7_share_0_130_r rfl).trans ((F_X7_share_66_130_r rfl).trans ((F_X7_share_99_130_l rfl).trans (ftl_X7_share_108)))
theorem ft_X7_share_109 : F_X7_share 109 = J_imul 110 := (F_X7_share_0_130_r rfl).trans ((F_X7_share_66_130_r rfl).trans ((F_X7_share_99_130_l rfl).trans (ftl_X7_share_109)))
theorem ft_X7_share_110 : F_X7_share 110 = J_iadd 111 := (F_X7_share_0_130_r rfl).trans ((F_X7_share_66_130_r rfl).trans ((F_X7_share_99_130_l rfl).trans (ftl_X7_share_110)))
theorem ft_X7_share_111 : F_X7_share 111 = J_istore 3 112 := (F_X7_share_0_130_r rfl).trans ((F_X7_share_66_130_r rfl).trans ((F_X7_share_99_130_r rfl).trans (ftl_X7_share_111)))
theorem ft_X7_share_112 : F_X7_share 112 = J_iinc 4 1 115 := (F_X7_share_0_130_r rfl).trans ((F_X7_share_66_130_r rfl).trans ((F_X7_share_99_130_r rfl).trans (ftl_X7_share_112)))
theorem ft_X7_share_115 : F_X7_share 115 = J_goto 44 := (F_X7_share_0_130_r rfl).trans ((F_X7_share_66_130_r rfl).trans ((F_X7_share_99_130_r rfl).trans (ftl_X7_share_115)))
theorem ft_X7_share_118 : F_X7_share 118 = J_iload 3 119 := (F_X7_share_0_130_r rfl).trans ((F_X7_share_66_130_r rfl).trans ((F_X7_share_99_130_r rfl).trans (ftl_X7_share_118)))
theorem ft_X7_share_119 : F_X7_share 119 = J_aload 0 120 := (F_X7_share_0_130_r rfl).trans ((F_X7_share_66_130_r rfl).trans ((F_X7_share_99_130_r rfl).trans (ftl_X7_share_119)))
theorem ft_X7_share_120 : F_X7_share 120 = J_getfield 7 2 123 := (F_X7_share_0_130_r rfl).trans ((F_X7_share_66_130_r rfl).trans ((F_X7_share_99_130_r rfl).trans (ftl_X7_share_120)))
theorem ft_X7_share_123 : F_X7_share 123 = J_callS S_X7_factorial 1 126 := (F_X7_share_0_130_r rfl).trans ((F_X7_share_66_130_r rfl).trans ((F_X7_share_99_130_r rfl).trans (ftl_X7_share_123)))
theorem ft_X7_share_126 : F_X7_share 126 = J_iload 2 127 := (F_X7_share_0_130_r rfl).trans ((F_X7_share_66_130_r rfl).trans ((F_X7_share_99_130_r rfl).trans (ftl_X7_share_126)))
theorem ft_X7_share_127 : F_X7_share 127 = J_callS S_X7_fraction 3 130 := (F_X7_share_0_130_r rfl).trans ((F_X7_share_66_130_r rfl).trans ((F_X7_share_99_130_r rfl).trans (ftl_X7_share_127)))
theorem ft_X7_share_130 : F_X7_share 130 = J_ireturn 0 0 := (F_X7_share_0_130_r rfl).trans ((F_X7_share_66_130_r rfl).trans ((F_X7_share_99_130_r rfl).trans (ftl_X7_share_130)))
set_option maxRecDepth 4096 in
theorem lp_X7_share2 {Q : jQ} {C : Nat → Nat → Int32} {z : Nat → Int64} {nb P K B p : Nat} {u : Int32} (q : AQ C P K B) (hp : p < P) (h : ∀ C', Ev C C' → Q (some (.int (fracF (shM C P p (2 ^ P)) (facF (nI P)) u))) (memS 94 C' z)) {C1 : Nat → Nat → Int32} (v : Ev C C1) (hw : ∀ i, i < 2 ^ P → C1 88 i = worF C (nI i)) :
    ∀ k j, j + k = 2 ^ P → ∀ o : Option Value, Rn Y_X7_share none Q 44 [some (.ref 71), some (.int (nI p)), some (.int u), some (.int (shM C P p j)), some (.int (nI j)), o] [] (memS 94 C1 z) (nb, 0, 0) := by
  have h4 := q.1.s.h4
  have h16 := p2_lt h4
  have hp2 := sh_p2 P h4
  have e2 : C1 71 2 = nI P := by rw [v.fld 2 rfl]; exact q.1.s.mP
  intro k
  induction k with
  | zero =>
    intro j hj o
    have hc : (nI (2 ^ P) ≤ nI j) = True := eq_true (nI_le (by omega) (by omega))
    obtain ⟨b, ⟨hb0, hb⟩, eb⟩ := fac_nI P h4
    refine jrun_first OK_X7_share (C := [12, 44]) 60 ?_
    simp -implicitDefEqProofs only [jr_0, jr_1, jr_2, j_iconst, j_lconst, j_iload0, j_aload0, j_istore0, j_astore0, j_iinc0, j_iload1, j_aload1, j_istore1, j_astore1, j_iinc1, j_iload2, j_aload2, j_istore2, j_astore2, j_iinc2, j_iload3, j_aload3, j_istore3, j_astore3, j_iinc3, j_iload4, j_aload4, j_istore4, j_astore4, j_iinc4, j_iload5, j_aload5, j_istore5, j_astore5, j_iinc5, j_iload6, j_aload6, j_istore6, j_astore6, j_iinc6, j_iload7, j_aload7, j_istore7, j_astore7, j_iinc7, j_iload8, j_aload8, j_istore8, j_astore8, j_iinc8, j_iadd, j_isub, j_imul, j_iand, j_ior, j_ixor, j_ishl, j_ishr, j_iushr, j_idiv, j_irem, j_ineg, j_ladd, j_lmul, j_land, j_lor, j_lcmp, j_lushr, j_lshl, j_i2l, j_l2i, j_dupI, j_dupR, j_popI, j_dup2, j_ifeq, j_iceq, j_ifne, j_icne, j_iflt, j_iclt, j_ifge, j_icge, j_ifgt, j_icgt, j_ifle, j_icle, j_goto, j_tsw, j_sw0, j_sw1, j_ireturn, j_zreturn, j_lreturn, j_return, j_getfield, j_putI, j_putJ, j_putR, j_iaload, j_baload, j_iastore, j_bastore, j_aaload, j_q, j_aastore, j_acopy, j_mmin, j_mmax, j_mabs, j_objinit, j_new, j_newI, j_newQ, j_sld, j_slen, j_callV0, j_callI0, j_callS0, j_callV1, j_callI1, j_callS1, j_callV2, j_callI2, j_callS2, j_callV3, j_callS3, j_callV4, j_callS4, j_callV5, j_callS5, j_pushS, j_pushN, j_sh0, j_sh1, j_sh2, j_sh3, j_sh4, Int32.reduceAdd, Int32.reduceMul, Int32.reduceSub, Int32.reduceLT, Int32.reduceLE, eq_self, i32_10, i32_01, ne_eq, hrow_s, hrow_n, ne10, ne100, ne1000, ne7, ne4, ne14, ne9973, or_true, true_or, or_false, false_or, not_true_eq_false, not_false_eq_true, false_implies, implies_true, and_true, forall_const, true_implies, jargs_n, jargs_r, jargs_i, List.cons_append, List.nil_append, true_and, Nat.reduceEqDiff, reduceIte, ft_X7_share_0, ft_X7_share_1, ft_X7_share_2, ft_X7_share_5, ft_X7_share_8, ft_X7_share_9, ft_X7_share_10, ft_X7_share_11, ft_X7_share_12, ft_X7_share_13, ft_X7_share_14, ft_X7_share_15, ft_X7_share_18, ft_X7_share_19, ft_X7_share_22, ft_X7_share_23, ft_X7_share_26, ft_X7_share_27, ft_X7_share_28, ft_X7_share_29, ft_X7_share_32, ft_X7_share_33, ft_X7_share_36, ft_X7_share_39, ft_X7_share_40, ft_X7_share_41, ft_X7_share_42, ft_X7_share_44, ft_X7_share_46, ft_X7_share_47, ft_X7_share_48, ft_X7_share_51, ft_X7_share_52, ft_X7_share_55, ft_X7_share_57, ft_X7_share_58, ft_X7_share_61, ft_X7_share_64, ft_X7_share_66, ft_X7_share_69, ft_X7_share_71, ft_X7_share_72, ft_X7_share_74, ft_X7_share_77, ft_X7_share_78, ft_X7_share_81, ft_X7_share_82, ft_X7_share_83, ft_X7_share_85, ft_X7_share_86, ft_X7_share_89, ft_X7_share_90, ft_X7_share_91, ft_X7_share_94, ft_X7_share_96, ft_X7_share_97, ft_X7_share_98, ft_X7_share_99, ft_X7_share_100, ft_X7_share_101, ft_X7_share_102, ft_X7_share_105, ft_X7_share_107, ft_X7_share_108, ft_X7_share_109, ft_X7_share_110, ft_X7_share_111, ft_X7_share_112, ft_X7_share_115, ft_X7_share_118, ft_X7_share_119, ft_X7_share_120, ft_X7_share_123, ft_X7_share_126, ft_X7_share_127, ft_X7_share_130, fl_71_2, e2, hp2, hc, s_X7_factorial, eq_and (fac_ok P h4)]
    have hq := h C1 v
    rw [show j = 2 ^ P by omega]
    rw [eb] at hq ⊢
    refine s_X7_fraction (eu_ok hb0 hb).1 (eu_ok hb0 hb).2 ?_
    simp -implicitDefEqProofs only [jr_0, jr_1, jr_2, j_iconst, j_lconst, j_iload0, j_aload0, j_istore0, j_astore0, j_iinc0, j_iload1, j_aload1, j_istore1, j_astore1, j_iinc1, j_iload2, j_aload2, j_istore2, j_astore2, j_iinc2, j_iload3, j_aload3, j_istore3, j_astore3, j_iinc3, j_iload4, j_aload4, j_istore4, j_astore4, j_iinc4, j_iload5, j_aload5, j_istore5, j_astore5, j_iinc5, j_iload6, j_aload6, j_istore6, j_astore6, j_iinc6, j_iload7, j_aload7, j_istore7, j_astore7, j_iinc7, j_iload8, j_aload8, j_istore8, j_astore8, j_iinc8, j_iadd, j_isub, j_imul, j_iand, j_ior, j_ixor, j_ishl, j_ishr, j_iushr, j_idiv, j_irem, j_ineg, j_ladd, j_lmul, j_land, j_lor, j_lcmp, j_lushr, j_lshl, j_i2l, j_l2i, j_dupI, j_dupR, j_popI, j_dup2, j_ifeq, j_iceq, j_ifne, j_icne, j_iflt, j_iclt, j_ifge, j_icge, j_ifgt, j_icgt, j_ifle, j_icle, j_goto, j_tsw, j_sw0, j_sw1, j_ireturn, j_zreturn, j_lreturn, j_return, j_getfield, j_putI, j_putJ, j_putR, j_iaload, j_baload, j_iastore, j_bastore, j_aaload, j_q, j_aastore, j_acopy, j_mmin, j_mmax, j_mabs, j_objinit, j_new, j_newI, j_newQ, j_sld, j_slen, j_callV0, j_callI0, j_callS0, j_callV1, j_callI1, j_callS1, j_callV2, j_callI2, j_callS2, j_callV3, j_callS3, j_callV4, j_callS4, j_callV5, j_callS5, j_pushS, j_pushN, j_sh0, j_sh1, j_sh2, j_sh3, j_sh4, Int32.reduceAdd, Int32.reduceMul, Int32.reduceSub, Int32.reduceLT, Int32.reduceLE, eq_self, i32_10, i32_01, ne_eq, hrow_s, hrow_n, ne10, ne100, ne1000, ne7, ne4, ne14, ne9973, or_true, true_or, or_false, false_or, not_true_eq_false, not_false_eq_true, false_implies, implies_true, and_true, forall_const, true_implies, jargs_n, jargs_r, jargs_i, List.cons_append, List.nil_append, true_and, Nat.reduceEqDiff, reduceIte, ft_X7_share_0, ft_X7_share_1, ft_X7_share_2, ft_X7_share_5, ft_X7_share_8, ft_X7_share_9, ft_X7_share_10, ft_X7_share_11, ft_X7_share_12, ft_X7_share_13, ft_X7_share_14, ft_X7_share_15, ft_X7_share_18, ft_X7_share_19, ft_X7_share_22, ft_X7_share_23, ft_X7_share_26, ft_X7_share_27, ft_X7_share_28, ft_X7_share_29, ft_X7_share_32, ft_X7_share_33, ft_X7_share_36, ft_X7_share_39, ft_X7_share_40, ft_X7_share_41, ft_X7_share_42, ft_X7_share_44, ft_X7_share_46, ft_X7_share_47, ft_X7_share_48, ft_X7_share_51, ft_X7_share_52, ft_X7_share_55, ft_X7_share_57, ft_X7_share_58, ft_X7_share_61, ft_X7_share_64, ft_X7_share_66, ft_X7_share_69, ft_X7_share_71, ft_X7_share_72, ft_X7_share_74, ft_X7_share_77, ft_X7_share_78, ft_X7_share_81, ft_X7_share_82, ft_X7_share_83, ft_X7_share_85, ft_X7_share_86, ft_X7_share_89, ft_X7_share_90, ft_X7_share_91, ft_X7_share_94, ft_X7_share_96, ft_X7_share_97, ft_X7_share_98, ft_X7_share_99, ft_X7_share_100, ft_X7_share_101, ft_X7_share_102, ft_X7_share_105, ft_X7_share_107, ft_X7_share_108, ft_X7_share_109, ft_X7_share_110, ft_X7_share_111, ft_X7_share_112, ft_X7_share_115, ft_X7_share_118, ft_X7_share_119, ft_X7_share_120, ft_X7_share_123, ft_X7_share_126, ft_X7_share_127, ft_X7_share_130]
    exact hq
  | succ k ih =>
    intro j hj o
    have hc : (nI (2 ^ P) ≤ nI j) = False := eq_false (nI_ge (by omega) (by omega))
    have hk := ih (j + 1) (by omega)
    unfold shM at hk
    have hh := hasP_n (f := j) (p := p) (by omega) (by omega)
    refine jrun_first OK_X7_share (C := [12, 44]) 80 ?_
    by_cases g : Nat.testBit j p = true
    · rw [pick_t (by rw [hh]; exact g)] at hk
      simp -implicitDefEqProofs only [jr_0, jr_1, jr_2, j_iconst, j_lconst, j_iload0, j_aload0, j_istore0, j_astore0, j_iinc0, j_iload1, j_aload1, j_istore1, j_astore1, j_iinc1, j_iload2, j_aload2, j_istore2, j_astore2, j_iinc2, j_iload3, j_aload3, j_istore3, j_astore3, j_iinc3, j_iload4, j_aload4, j_istore4, j_astore4, j_iinc4, j_iload5, j_aload5, j_istore5, j_astore5, j_iinc5, j_iload6, j_aload6, j_istore6, j_astore6, j_iinc6, j_iload7, j_aload7, j_istore7, j_astore7, j_iinc7, j_iload8, j_aload8, j_istore8, j_astore8, j_iinc8, j_iadd, j_isub, j_imul, j_iand, j_ior, j_ixor, j_ishl, j_ishr, j_iushr, j_idiv, j_irem, j_ineg, j_ladd, j_lmul, j_land, j_lor, j_lcmp, j_lushr, j_lshl, j_i2l, j_l2i, j_dupI, j_dupR, j_popI, j_dup2, j_ifeq, j_iceq, j_ifne, j_icne, j_iflt, j_iclt, j_ifge, j_icge, j_ifgt, j_icgt, j_ifle, j_icle, j_goto, j_tsw, j_sw0, j_sw1, j_ireturn, j_zreturn, j_lreturn, j_return, j_getfield, j_putI, j_putJ, j_putR, j_iaload, j_baload, j_iastore, j_bastore, j_aaload, j_q, j_aastore, j_acopy, j_mmin, j_mmax, j_mabs, j_objinit, j_new, j_newI, j_newQ, j_sld, j_slen, j_callV0, j_callI0, j_callS0, j_callV1, j_callI1, j_callS1, j_callV2, j_callI2, j_callS2, j_callV3, j_callS3, j_callV4, j_callS4, j_callV5, j_callS5, j_pushS, j_pushN, j_sh0, j_sh1, j_sh2, j_sh3, j_sh4, Int32.reduceAdd, Int32.reduceMul, Int32.reduceSub, Int32.reduceLT, Int32.reduceLE, eq_self, i32_10, i32_01, ne_eq, hrow_s, hrow_n, ne10, ne100, ne1000, ne7, ne4, ne14, ne9973, or_true, true_or, or_false, false_or, not_true_eq_false, not_false_eq_true, false_implies, implies_true, and_true, forall_const, true_implies, jargs_n, jargs_r, jargs_i, List.cons_append, List.nil_append, true_and, Nat.reduceEqDiff, reduceIte, ft_X7_share_0, ft_X7_share_1, ft_X7_share_2, ft_X7_share_5, ft_X7_share_8, ft_X7_share_9, ft_X7_share_10, ft_X7_share_11, ft_X7_share_12, ft_X7_share_13, ft_X7_share_14, ft_X7_share_15, ft_X7_share_18, ft_X7_share_19, ft_X7_share_22, ft_X7_share_23, ft_X7_share_26, ft_X7_share_27, ft_X7_share_28, ft_X7_share_29, ft_X7_share_32, ft_X7_share_33, ft_X7_share_36, ft_X7_share_39, ft_X7_share_40, ft_X7_share_41, ft_X7_share_42, ft_X7_share_44, ft_X7_share_46, ft_X7_share_47, ft_X7_share_48, ft_X7_share_51, ft_X7_share_52, ft_X7_share_55, ft_X7_share_57, ft_X7_share_58, ft_X7_share_61, ft_X7_share_64, ft_X7_share_66, ft_X7_share_69, ft_X7_share_71, ft_X7_share_72, ft_X7_share_74, ft_X7_share_77, ft_X7_share_78, ft_X7_share_81, ft_X7_share_82, ft_X7_share_83, ft_X7_share_85, ft_X7_share_86, ft_X7_share_89, ft_X7_share_90, ft_X7_share_91, ft_X7_share_94, ft_X7_share_96, ft_X7_share_97, ft_X7_share_98, ft_X7_share_99, ft_X7_share_100, ft_X7_share_101, ft_X7_share_102, ft_X7_share_105, ft_X7_share_107, ft_X7_share_108, ft_X7_share_109, ft_X7_share_110, ft_X7_share_111, ft_X7_share_112, ft_X7_share_115, ft_X7_share_118, ft_X7_share_119, ft_X7_share_120, ft_X7_share_123, ft_X7_share_126, ft_X7_share_127, ft_X7_share_130, fl_71_2, e2, hp2, hc, s_X7_has, hh, zb_t g, ne1_0, nI_1]
      exact hk _
    · rw [pick_f (by rw [hh]; exact g)] at hk
      have ok := ones_ok h4 hp (show j < 2 ^ P by omega) g
      have hor := or_lt P h4 p hp j (by omega)
      have v1 : vp_in (nI j) 16 := vp_in_nI (by omega) (by decide)
      have v2 : vp_in (nI (j ||| 2 ^ p)) 16 := vp_in_nI (by omega) (by decide)
      simp -implicitDefEqProofs only [jr_0, jr_1, jr_2, j_iconst, j_lconst, j_iload0, j_aload0, j_istore0, j_astore0, j_iinc0, j_iload1, j_aload1, j_istore1, j_astore1, j_iinc1, j_iload2, j_aload2, j_istore2, j_astore2, j_iinc2, j_iload3, j_aload3, j_istore3, j_astore3, j_iinc3, j_iload4, j_aload4, j_istore4, j_astore4, j_iinc4, j_iload5, j_aload5, j_istore5, j_astore5, j_iinc5, j_iload6, j_aload6, j_istore6, j_astore6, j_iinc6, j_iload7, j_aload7, j_istore7, j_astore7, j_iinc7, j_iload8, j_aload8, j_istore8, j_astore8, j_iinc8, j_iadd, j_isub, j_imul, j_iand, j_ior, j_ixor, j_ishl, j_ishr, j_iushr, j_idiv, j_irem, j_ineg, j_ladd, j_lmul, j_land, j_lor, j_lcmp, j_lushr, j_lshl, j_i2l, j_l2i, j_dupI, j_dupR, j_popI, j_dup2, j_ifeq, j_iceq, j_ifne, j_icne, j_iflt, j_iclt, j_ifge, j_icge, j_ifgt, j_icgt, j_ifle, j_icle, j_goto, j_tsw, j_sw0, j_sw1, j_ireturn, j_zreturn, j_lreturn, j_return, j_getfield, j_putI, j_putJ, j_putR, j_iaload, j_baload, j_iastore, j_bastore, j_aaload, j_q, j_aastore, j_acopy, j_mmin, j_mmax, j_mabs, j_objinit, j_new, j_newI, j_newQ, j_sld, j_slen, j_callV0, j_callI0, j_callS0, j_callV1, j_callI1, j_callS1, j_callV2, j_callI2, j_callS2, j_callV3, j_callS3, j_callV4, j_callS4, j_callV5, j_callS5, j_pushS, j_pushN, j_sh0, j_sh1, j_sh2, j_sh3, j_sh4, Int32.reduceAdd, Int32.reduceMul, Int32.reduceSub, Int32.reduceLT, Int32.reduceLE, eq_self, i32_10, i32_01, ne_eq, hrow_s, hrow_n, ne10, ne100, ne1000, ne7, ne4, ne14, ne9973, or_true, true_or, or_false, false_or, not_true_eq_false, not_false_eq_true, false_implies, implies_true, and_true, forall_const, true_implies, jargs_n, jargs_r, jargs_i, List.cons_append, List.nil_append, true_and, Nat.reduceEqDiff, reduceIte, ft_X7_share_0, ft_X7_share_1, ft_X7_share_2, ft_X7_share_5, ft_X7_share_8, ft_X7_share_9, ft_X7_share_10, ft_X7_share_11, ft_X7_share_12, ft_X7_share_13, ft_X7_share_14, ft_X7_share_15, ft_X7_share_18, ft_X7_share_19, ft_X7_share_22, ft_X7_share_23, ft_X7_share_26, ft_X7_share_27, ft_X7_share_28, ft_X7_share_29, ft_X7_share_32, ft_X7_share_33, ft_X7_share_36, ft_X7_share_39, ft_X7_share_40, ft_X7_share_41, ft_X7_share_42, ft_X7_share_44, ft_X7_share_46, ft_X7_share_47, ft_X7_share_48, ft_X7_share_51, ft_X7_share_52, ft_X7_share_55, ft_X7_share_57, ft_X7_share_58, ft_X7_share_61, ft_X7_share_64, ft_X7_share_66, ft_X7_share_69, ft_X7_share_71, ft_X7_share_72, ft_X7_share_74, ft_X7_share_77, ft_X7_share_78, ft_X7_share_81, ft_X7_share_82, ft_X7_share_83, ft_X7_share_85, ft_X7_share_86, ft_X7_share_89, ft_X7_share_90, ft_X7_share_91, ft_X7_share_94, ft_X7_share_96, ft_X7_share_97, ft_X7_share_98, ft_X7_share_99, ft_X7_share_100, ft_X7_share_101, ft_X7_share_102, ft_X7_share_105, ft_X7_share_107, ft_X7_share_108, ft_X7_share_109, ft_X7_share_110, ft_X7_share_111, ft_X7_share_112, ft_X7_share_115, ft_X7_share_118, ft_X7_share_119, ft_X7_share_120, ft_X7_share_123, ft_X7_share_126, ft_X7_share_127, ft_X7_share_130, fl_71_2, fl_71_27, e2, hp2, hc, s_X7_has, hh, zb_f g, s_X7_ones, s_X7_factorial, eq_and ok.1, eq_and ok.2, sh_or p (by omega) j (by omega), al_88, v1, v2, nI_clamp (show j < 2 ^ 31 by omega), nI_clamp (show j ||| 2 ^ p < 2 ^ 31 by omega), hw j (by omega), hw _ hor, nI_1]
      exact hk _
theorem lp_X7_share1 {Q : jQ} {C : Nat → Nat → Int32} {z : Nat → Int64} {nb P K B p : Nat} {u : Int32} (q : AQ C P K B) (hp : p < P) (h : ∀ C', Ev C C' → Q (some (.int (fracF (shM C P p (2 ^ P)) (facF (nI P)) u))) (memS 94 C' z)) :
    ∀ k j, j + k = 2 ^ P → ∀ C1, Ev C C1 → (∀ i, i < j → C1 88 i = worF C (nI i)) → ∀ o o2 : Option Value, Rn Y_X7_share none Q 12 [some (.ref 71), some (.int (nI p)), some (.int u), some (.int (nI j)), o, o2] [] (memS 94 C1 z) (nb, 0, 0) := by
  have h4 := q.1.s.h4
  have h16 := p2_lt h4
  have hp2 := sh_p2 P h4
  intro k
  induction k with
  | zero =>
    intro j hj C1 v hw o o2
    have e2 : C1 71 2 = nI P := by rw [v.fld 2 rfl]; exact q.1.s.mP
    have hc : (nI (2 ^ P) ≤ nI j) = True := eq_true (nI_le (by omega) (by omega))
    refine jrun_first OK_X7_share (C := [12, 44]) 60 ?_
    simp -implicitDefEqProofs only [jr_0, jr_1, jr_2, j_iconst, j_lconst, j_iload0, j_aload0, j_istore0, j_astore0, j_iinc0, j_iload1, j_aload1, j_istore1, j_astore1, j_iinc1, j_iload2, j_aload2, j_istore2, j_astore2, j_iinc2, j_iload3, j_aload3, j_istore3, j_astore3, j_iinc3, j_iload4, j_aload4, j_istore4, j_astore4, j_iinc4, j_iload5, j_aload5, j_istore5, j_astore5, j_iinc5, j_iload6, j_aload6, j_istore6, j_astore6, j_iinc6, j_iload7, j_aload7, j_istore7, j_astore7, j_iinc7, j_iload8, j_aload8, j_istore8, j_astore8, j_iinc8, j_iadd, j_isub, j_imul, j_iand, j_ior, j_ixor, j_ishl, j_ishr, j_iushr, j_idiv, j_irem, j_ineg, j_ladd, j_lmul, j_land, j_lor, j_lcmp, j_lushr, j_lshl, j_i2l, j_l2i, j_dupI, j_dupR, j_popI, j_dup2, j_ifeq, j_iceq, j_ifne, j_icne, j_iflt, j_iclt, j_ifge, j_icge, j_ifgt, j_icgt, j_ifle, j_icle, j_goto, j_tsw, j_sw0, j_sw1, j_ireturn, j_zreturn, j_lreturn, j_return, j_getfield, j_putI, j_putJ, j_putR, j_iaload, j_baload, j_iastore, j_bastore, j_aaload, j_q, j_aastore, j_acopy, j_mmin, j_mmax, j_mabs, j_objinit, j_new, j_newI, j_newQ, j_sld, j_slen, j_callV0, j_callI0, j_callS0, j_callV1, j_callI1, j_callS1, j_callV2, j_callI2, j_callS2, j_callV3, j_callS3, j_callV4, j_callS4, j_callV5, j_callS5, j_pushS, j_pushN, j_sh0, j_sh1, j_sh2, j_sh3, j_sh4, Int32.reduceAdd, Int32.reduceMul, Int32.reduceSub, Int32.reduceLT, Int32.reduceLE, eq_self, i32_10, i32_01, ne_eq, hrow_s, hrow_n, ne10, ne100, ne1000, ne7, ne4, ne14, ne9973, or_true, true_or, or_false, false_or, not_true_eq_false, not_false_eq_true, false_implies, implies_true, and_true, forall_const, true_implies, jargs_n, jargs_r, jargs_i, List.cons_append, List.nil_append, true_and, Nat.reduceEqDiff, reduceIte, ft_X7_share_0, ft_X7_share_1, ft_X7_share_2, ft_X7_share_5, ft_X7_share_8, ft_X7_share_9, ft_X7_share_10, ft_X7_share_11, ft_X7_share_12, ft_X7_share_13, ft_X7_share_14, ft_X7_share_15, ft_X7_share_18, ft_X7_share_19, ft_X7_share_22, ft_X7_share_23, ft_X7_share_26, ft_X7_share_27, ft_X7_share_28, ft_X7_share_29, ft_X7_share_32, ft_X7_share_33, ft_X7_share_36, ft_X7_share_39, ft_X7_share_40, ft_X7_share_41, ft_X7_share_42, ft_X7_share_44, ft_X7_share_46, ft_X7_share_47, ft_X7_share_48, ft_X7_share_51, ft_X7_share_52, ft_X7_share_55, ft_X7_share_57, ft_X7_share_58, ft_X7_share_61, ft_X7_share_64, ft_X7_share_66, ft_X7_share_69, ft_X7_share_71, ft_X7_share_72, ft_X7_share_74, ft_X7_share_77, ft_X7_share_78, ft_X7_share_81, ft_X7_share_82, ft_X7_share_83, ft_X7_share_85, ft_X7_share_86, ft_X7_share_89, ft_X7_share_90, ft_X7_share_91, ft_X7_share_94, ft_X7_share_96, ft_X7_share_97, ft_X7_share_98, ft_X7_share_99, ft_X7_share_100, ft_X7_share_101, ft_X7_share_102, ft_X7_share_105, ft_X7_share_107, ft_X7_share_108, ft_X7_share_109, ft_X7_share_110, ft_X7_share_111, ft_X7_share_112, ft_X7_share_115, ft_X7_share_118, ft_X7_share_119, ft_X7_share_120, ft_X7_share_123, ft_X7_share_126, ft_X7_share_127, ft_X7_share_130, fl_71_2, e2, hp2, hc]
    exact lp_X7_share2 q hp h v (fun i hi => hw i (by omega)) (2 ^ P) 0 (by omega) _
  | succ k ih =>
    intro j hj C1 v hw o o2
    have e2 : C1 71 2 = nI P := by rw [v.fld 2 rfl]; exact q.1.s.mP
    have hc : (nI (2 ^ P) ≤ nI j) = False := eq_false (nI_ge (by omega) (by omega))
    have v1 : vp_in (nI j) 16 := vp_in_nI (by omega) (by decide)
    refine jrun_first OK_X7_share (C := [12, 44]) 80 ?_
    simp -implicitDefEqProofs only [jr_0, jr_1, jr_2, j_iconst, j_lconst, j_iload0, j_aload0, j_istore0, j_astore0, j_iinc0, j_iload1, j_aload1, j_istore1, j_astore1, j_iinc1, j_iload2, j_aload2, j_istore2, j_astore2, j_iinc2, j_iload3, j_aload3, j_istore3, j_astore3, j_iinc3, j_iload4, j_aload4, j_istore4, j_astore4, j_iinc4, j_iload5, j_aload5, j_istore5, j_astore5, j_iinc5, j_iload6, j_aload6, j_istore6, j_astore6, j_iinc6, j_iload7, j_aload7, j_istore7, j_astore7, j_iinc7, j_iload8, j_aload8, j_istore8, j_astore8, j_iinc8, j_iadd, j_isub, j_imul, j_iand, j_ior, j_ixor, j_ishl, j_ishr, j_iushr, j_idiv, j_irem, j_ineg, j_ladd, j_lmul, j_land, j_lor, j_lcmp, j_lushr, j_lshl, j_i2l, j_l2i, j_dupI, j_dupR, j_popI, j_dup2, j_ifeq, j_iceq, j_ifne, j_icne, j_iflt, j_iclt, j_ifge, j_icge, j_ifgt, j_icgt, j_ifle, j_icle, j_goto, j_tsw, j_sw0, j_sw1, j_ireturn, j_zreturn, j_lreturn, j_return, j_getfield, j_putI, j_putJ, j_putR, j_iaload, j_baload, j_iastore, j_bastore, j_aaload, j_q, j_aastore, j_acopy, j_mmin, j_mmax, j_mabs, j_objinit, j_new, j_newI, j_newQ, j_sld, j_slen, j_callV0, j_callI0, j_callS0, j_callV1, j_callI1, j_callS1, j_callV2, j_callI2, j_callS2, j_callV3, j_callS3, j_callV4, j_callS4, j_callV5, j_callS5, j_pushS, j_pushN, j_sh0, j_sh1, j_sh2, j_sh3, j_sh4, Int32.reduceAdd, Int32.reduceMul, Int32.reduceSub, Int32.reduceLT, Int32.reduceLE, eq_self, i32_10, i32_01, ne_eq, hrow_s, hrow_n, ne10, ne100, ne1000, ne7, ne4, ne14, ne9973, or_true, true_or, or_false, false_or, not_true_eq_false, not_false_eq_true, false_implies, implies_true, and_true, forall_const, true_implies, jargs_n, jargs_r, jargs_i, List.cons_append, List.nil_append, true_and, Nat.reduceEqDiff, reduceIte, ft_X7_share_0, ft_X7_share_1, ft_X7_share_2, ft_X7_share_5, ft_X7_share_8, ft_X7_share_9, ft_X7_share_10, ft_X7_share_11, ft_X7_share_12, ft_X7_share_13, ft_X7_share_14, ft_X7_share_15, ft_X7_share_18, ft_X7_share_19, ft_X7_share_22, ft_X7_share_23, ft_X7_share_26, ft_X7_share_27, ft_X7_share_28, ft_X7_share_29, ft_X7_share_32, ft_X7_share_33, ft_X7_share_36, ft_X7_share_39, ft_X7_share_40, ft_X7_share_41, ft_X7_share_42, ft_X7_share_44, ft_X7_share_46, ft_X7_share_47, ft_X7_share_48, ft_X7_share_51, ft_X7_share_52, ft_X7_share_55, ft_X7_share_57, ft_X7_share_58, ft_X7_share_61, ft_X7_share_64, ft_X7_share_66, ft_X7_share_69, ft_X7_share_71, ft_X7_share_72, ft_X7_share_74, ft_X7_share_77, ft_X7_share_78, ft_X7_share_81, ft_X7_share_82, ft_X7_share_83, ft_X7_share_85, ft_X7_share_86, ft_X7_share_89, ft_X7_share_90, ft_X7_share_91, ft_X7_share_94, ft_X7_share_96, ft_X7_share_97, ft_X7_share_98, ft_X7_share_99, ft_X7_share_100, ft_X7_share_101, ft_X7_share_102, ft_X7_share_105, ft_X7_share_107, ft_X7_share_108, ft_X7_share_109, ft_X7_share_110, ft_X7_share_111, ft_X7_share_112, ft_X7_share_115, ft_X7_share_118, ft_X7_share_119, ft_X7_share_120, ft_X7_share_123, ft_X7_share_126, ft_X7_share_127, ft_X7_share_130, rc_71, fl_71_2, fl_71_27, e2, hp2, hc]
    refine s_X7_metersBy q v fun C2 v2 e88 => ?_
    simp -implicitDefEqProofs only [jr_0, jr_1, jr_2, j_iconst, j_lconst, j_iload0, j_aload0, j_istore0, j_astore0, j_iinc0, j_iload1, j_aload1, j_istore1, j_astore1, j_iinc1, j_iload2, j_aload2, j_istore2, j_astore2, j_iinc2, j_iload3, j_aload3, j_istore3, j_astore3, j_iinc3, j_iload4, j_aload4, j_istore4, j_astore4, j_iinc4, j_iload5, j_aload5, j_istore5, j_astore5, j_iinc5, j_iload6, j_aload6, j_istore6, j_astore6, j_iinc6, j_iload7, j_aload7, j_istore7, j_astore7, j_iinc7, j_iload8, j_aload8, j_istore8, j_astore8, j_iinc8, j_iadd, j_isub, j_imul, j_iand, j_ior, j_ixor, j_ishl, j_ishr, j_iushr, j_idiv, j_irem, j_ineg, j_ladd, j_lmul, j_land, j_lor, j_lcmp, j_lushr, j_lshl, j_i2l, j_l2i, j_dupI, j_dupR, j_popI, j_dup2, j_ifeq, j_iceq, j_ifne, j_icne, j_iflt, j_iclt, j_ifge, j_icge, j_ifgt, j_icgt, j_ifle, j_icle, j_goto, j_tsw, j_sw0, j_sw1, j_ireturn, j_zreturn, j_lreturn, j_return, j_getfield, j_putI, j_putJ, j_putR, j_iaload, j_baload, j_iastore, j_bastore, j_aaload, j_q, j_aastore, j_acopy, j_mmin, j_mmax, j_mabs, j_objinit, j_new, j_newI, j_newQ, j_sld, j_slen, j_callV0, j_callI0, j_callS0, j_callV1, j_callI1, j_callS1, j_callV2, j_callI2, j_callS2, j_callV3, j_callS3, j_callV4, j_callS4, j_callV5, j_callS5, j_pushS, j_pushN, j_sh0, j_sh1, j_sh2, j_sh3, j_sh4, Int32.reduceAdd, Int32.reduceMul, Int32.reduceSub, Int32.reduceLT, Int32.reduceLE, eq_self, i32_10, i32_01, ne_eq, hrow_s, hrow_n, ne10, ne100, ne1000, ne7, ne4, ne14, ne9973, or_true, true_or, or_false, false_or, not_true_eq_false, not_false_eq_true, false_implies, implies_true, and_true, forall_const, true_implies, jargs_n, jargs_r, jargs_i, List.cons_append, List.nil_append, true_and, Nat.reduceEqDiff, reduceIte, ft_X7_share_0, ft_X7_share_1, ft_X7_share_2, ft_X7_share_5, ft_X7_share_8, ft_X7_share_9, ft_X7_share_10, ft_X7_share_11, ft_X7_share_12, ft_X7_share_13, ft_X7_share_14, ft_X7_share_15, ft_X7_share_18, ft_X7_share_19, ft_X7_share_22, ft_X7_share_23, ft_X7_share_26, ft_X7_share_27, ft_X7_share_28, ft_X7_share_29, ft_X7_share_32, ft_X7_share_33, ft_X7_share_36, ft_X7_share_39, ft_X7_share_40, ft_X7_share_41, ft_X7_share_42, ft_X7_share_44, ft_X7_share_46, ft_X7_share_47, ft_X7_share_48, ft_X7_share_51, ft_X7_share_52, ft_X7_share_55, ft_X7_share_57, ft_X7_share_58, ft_X7_share_61, ft_X7_share_64, ft_X7_share_66, ft_X7_share_69, ft_X7_share_71, ft_X7_share_72, ft_X7_share_74, ft_X7_share_77, ft_X7_share_78, ft_X7_share_81, ft_X7_share_82, ft_X7_share_83, ft_X7_share_85, ft_X7_share_86, ft_X7_share_89, ft_X7_share_90, ft_X7_share_91, ft_X7_share_94, ft_X7_share_96, ft_X7_share_97, ft_X7_share_98, ft_X7_share_99, ft_X7_share_100, ft_X7_share_101, ft_X7_share_102, ft_X7_share_105, ft_X7_share_107, ft_X7_share_108, ft_X7_share_109, ft_X7_share_110, ft_X7_share_111, ft_X7_share_112, ft_X7_share_115, ft_X7_share_118, ft_X7_share_119, ft_X7_share_120, ft_X7_share_123, ft_X7_share_126, ft_X7_share_127, ft_X7_share_130, as_88, v1, nI_clamp (show j < 2 ^ 31 by omega), nI_1]
    refine ih (j + 1) (by omega) _ (v2.hx (a := 88) (by decide) (by decide)) (fun i hi => ?_) o o2
    rw [hrow_s]
    by_cases g : i = j
    · subst g; rw [upd_eq]
    · rw [upd_ne g, e88]; exact hw i (by omega)
theorem ok_X7_share : jMeets Y_X7_share S_X7_share := by
  intro nb vs mem Q h
  obtain ⟨C, C1, z, P, K, B, p, u, rfl, rfl, q, v, hQ⟩ := h
  have s1 := v.sr q.1.s
  have h4 := q.1.s.h4
  have hP : okPost C1 p = okPost C p := okPost_c (v.row 3 rfl)
  refine Ok.run OK_X7_share [12, 44] 60 [none, none, none] pn7 (Nat.le_of_ble_eq_true rfl) rfl ?_
  by_cases g : okPost C p
  · simp only [pick_t g] at hQ
    obtain ⟨j, hj, rfl⟩ := okPost_at q.1.s g
    rw [nI_clamp (by omega)] at hQ
    simp -implicitDefEqProofs only [jr_0, jr_1, jr_2, j_iconst, j_lconst, j_iload0, j_aload0, j_istore0, j_astore0, j_iinc0, j_iload1, j_aload1, j_istore1, j_astore1, j_iinc1, j_iload2, j_aload2, j_istore2, j_astore2, j_iinc2, j_iload3, j_aload3, j_istore3, j_astore3, j_iinc3, j_iload4, j_aload4, j_istore4, j_astore4, j_iinc4, j_iload5, j_aload5, j_istore5, j_astore5, j_iinc5, j_iload6, j_aload6, j_istore6, j_astore6, j_iinc6, j_iload7, j_aload7, j_istore7, j_astore7, j_iinc7, j_iload8, j_aload8, j_istore8, j_astore8, j_iinc8, j_iadd, j_isub, j_imul, j_iand, j_ior, j_ixor, j_ishl, j_ishr, j_iushr, j_idiv, j_irem, j_ineg, j_ladd, j_lmul, j_land, j_lor, j_lcmp, j_lushr, j_lshl, j_i2l, j_l2i, j_dupI, j_dupR, j_popI, j_dup2, j_ifeq, j_iceq, j_ifne, j_icne, j_iflt, j_iclt, j_ifge, j_icge, j_ifgt, j_icgt, j_ifle, j_icle, j_goto, j_tsw, j_sw0, j_sw1, j_ireturn, j_zreturn, j_lreturn, j_return, j_getfield, j_putI, j_putJ, j_putR, j_iaload, j_baload, j_iastore, j_bastore, j_aaload, j_q, j_aastore, j_acopy, j_mmin, j_mmax, j_mabs, j_objinit, j_new, j_newI, j_newQ, j_sld, j_slen, j_callV0, j_callI0, j_callS0, j_callV1, j_callI1, j_callS1, j_callV2, j_callI2, j_callS2, j_callV3, j_callS3, j_callV4, j_callS4, j_callV5, j_callS5, j_pushS, j_pushN, j_sh0, j_sh1, j_sh2, j_sh3, j_sh4, Int32.reduceAdd, Int32.reduceMul, Int32.reduceSub, Int32.reduceLT, Int32.reduceLE, eq_self, i32_10, i32_01, ne_eq, hrow_s, hrow_n, ne10, ne100, ne1000, ne7, ne4, ne14, ne9973, or_true, true_or, or_false, false_or, not_true_eq_false, not_false_eq_true, false_implies, implies_true, and_true, forall_const, true_implies, jargs_n, jargs_r, jargs_i, List.cons_append, List.nil_append, true_and, Nat.reduceEqDiff, reduceIte, ft_X7_share_0, ft_X7_share_1, ft_X7_share_2, ft_X7_share_5, ft_X7_share_8, ft_X7_share_9, ft_X7_share_10, ft_X7_share_11, ft_X7_share_12, ft_X7_share_13, ft_X7_share_14, ft_X7_share_15, ft_X7_share_18, ft_X7_share_19, ft_X7_share_22, ft_X7_share_23, ft_X7_share_26, ft_X7_share_27, ft_X7_share_28, ft_X7_share_29, ft_X7_share_32, ft_X7_share_33, ft_X7_share_36, ft_X7_share_39, ft_X7_share_40, ft_X7_share_41, ft_X7_share_42, ft_X7_share_44, ft_X7_share_46, ft_X7_share_47, ft_X7_share_48, ft_X7_share_51, ft_X7_share_52, ft_X7_share_55, ft_X7_share_57, ft_X7_share_58, ft_X7_share_61, ft_X7_share_64, ft_X7_share_66, ft_X7_share_69, ft_X7_share_71, ft_X7_share_72, ft_X7_share_74, ft_X7_share_77, ft_X7_share_78, ft_X7_share_81, ft_X7_share_82, ft_X7_share_83, ft_X7_share_85, ft_X7_share_86, ft_X7_share_89, ft_X7_share_90, ft_X7_share_91, ft_X7_share_94, ft_X7_share_96, ft_X7_share_97, ft_X7_share_98, ft_X7_share_99, ft_X7_share_100, ft_X7_share_101, ft_X7_share_102, ft_X7_share_105, ft_X7_share_107, ft_X7_share_108, ft_X7_share_109, ft_X7_share_110, ft_X7_share_111, ft_X7_share_112, ft_X7_share_115, ft_X7_share_118, ft_X7_share_119, ft_X7_share_120, ft_X7_share_123, ft_X7_share_126, ft_X7_share_127, ft_X7_share_130, rc_71, s_X7_isPost s1, hP, zb_t g, ne1_0]
    exact lp_X7_share1 q hj hQ (2 ^ P) 0 (by omega) C1 v (fun i hi => absurd hi (Nat.not_lt_zero i)) none none
  · simp only [pick_f g] at hQ
    simp -implicitDefEqProofs only [jr_0, jr_1, jr_2, j_iconst, j_lconst, j_iload0, j_aload0, j_istore0, j_astore0, j_iinc0, j_iload1, j_aload1, j_istore1, j_astore1, j_iinc1, j_iload2, j_aload2, j_istore2, j_astore2, j_iinc2, j_iload3, j_aload3, j_istore3, j_astore3, j_iinc3, j_iload4, j_aload4, j_istore4, j_astore4, j_iinc4, j_iload5, j_aload5, j_istore5, j_astore5, j_iinc5, j_iload6, j_aload6, j_istore6, j_astore6, j_iinc6, j_iload7, j_aload7, j_istore7, j_astore7, j_iinc7, j_iload8, j_aload8, j_istore8, j_astore8, j_iinc8, j_iadd, j_isub, j_imul, j_iand, j_ior, j_ixor, j_ishl, j_ishr, j_iushr, j_idiv, j_irem, j_ineg, j_ladd, j_lmul, j_land, j_lor, j_lcmp, j_lushr, j_lshl, j_i2l, j_l2i, j_dupI, j_dupR, j_popI, j_dup2, j_ifeq, j_iceq, j_ifne, j_icne, j_iflt, j_iclt, j_ifge, j_icge, j_ifgt, j_icgt, j_ifle, j_icle, j_goto, j_tsw, j_sw0, j_sw1, j_ireturn, j_zreturn, j_lreturn, j_return, j_getfield, j_putI, j_putJ, j_putR, j_iaload, j_baload, j_iastore, j_bastore, j_aaload, j_q, j_aastore, j_acopy, j_mmin, j_mmax, j_mabs, j_objinit, j_new, j_newI, j_newQ, j_sld, j_slen, j_callV0, j_callI0, j_callS0, j_callV1, j_callI1, j_callS1, j_callV2, j_callI2, j_callS2, j_callV3, j_callS3, j_callV4, j_callS4, j_callV5, j_callS5, j_pushS, j_pushN, j_sh0, j_sh1, j_sh2, j_sh3, j_sh4, Int32.reduceAdd, Int32.reduceMul, Int32.reduceSub, Int32.reduceLT, Int32.reduceLE, eq_self, i32_10, i32_01, ne_eq, hrow_s, hrow_n, ne10, ne100, ne1000, ne7, ne4, ne14, ne9973, or_true, true_or, or_false, false_or, not_true_eq_false, not_false_eq_true, false_implies, implies_true, and_true, forall_const, true_implies, jargs_n, jargs_r, jargs_i, List.cons_append, List.nil_append, true_and, Nat.reduceEqDiff, reduceIte, ft_X7_share_0, ft_X7_share_1, ft_X7_share_2, ft_X7_share_5, ft_X7_share_8, ft_X7_share_9, ft_X7_share_10, ft_X7_share_11, ft_X7_share_12, ft_X7_share_13, ft_X7_share_14, ft_X7_share_15, ft_X7_share_18, ft_X7_share_19, ft_X7_share_22, ft_X7_share_23, ft_X7_share_26, ft_X7_share_27, ft_X7_share_28, ft_X7_share_29, ft_X7_share_32, ft_X7_share_33, ft_X7_share_36, ft_X7_share_39, ft_X7_share_40, ft_X7_share_41, ft_X7_share_42, ft_X7_share_44, ft_X7_share_46, ft_X7_share_47, ft_X7_share_48, ft_X7_share_51, ft_X7_share_52, ft_X7_share_55, ft_X7_share_57, ft_X7_share_58, ft_X7_share_61, ft_X7_share_64, ft_X7_share_66, ft_X7_share_69, ft_X7_share_71, ft_X7_share_72, ft_X7_share_74, ft_X7_share_77, ft_X7_share_78, ft_X7_share_81, ft_X7_share_82, ft_X7_share_83, ft_X7_share_85, ft_X7_share_86, ft_X7_share_89, ft_X7_share_90, ft_X7_share_91, ft_X7_share_94, ft_X7_share_96, ft_X7_share_97, ft_X7_share_98, ft_X7_share_99, ft_X7_share_100, ft_X7_share_101, ft_X7_share_102, ft_X7_share_105, ft_X7_share_107, ft_X7_share_108, ft_X7_share_109, ft_X7_share_110, ft_X7_share_111, ft_X7_share_112, ft_X7_share_115, ft_X7_share_118, ft_X7_share_119, ft_X7_share_120, ft_X7_share_123, ft_X7_share_126, ft_X7_share_127, ft_X7_share_130, rc_71, s_X7_isPost s1, hP, zb_f g]
    exact hQ C1 v
/-- the class adds and takes away set by set, the model the differences -/
def sgF (W : Nat → Int32) (P p : Nat) : Nat → Int32
  | 0 => 0
  | k + 1 => sgF W P p k + (if Nat.testBit k p then ordsF P (nI p) (nI k) * W k else -ordsF P (nI p) (nI k) * W k)
def smF (W : Nat → Int32) (P p : Nat) : Nat → Int32
  | 0 => 0
  | j + 1 => if Nat.testBit j p then smF W P p j else smF W P p j + facF (onesF (nI j)) * facF (nI P - 1 - onesF (nI j)) * (W (j ||| 2 ^ p) - W j)
theorem shS_sg {C : Nat → Nat → Int32} {P p : Nat} (h4 : P ≤ 4) (hp : p < P) : ∀ k, k ≤ 2 ^ P → shS C P (nI p) k = sgF (fun i => worF C (nI i)) P p k
  | 0, _ => rfl
  | k + 1, hk => by
    have h16 := p2_lt h4
    have hh := hasP_n (f := k) (p := p) (by omega) (by omega)
    show shS C P (nI p) k + shT C P (nI p) (nI k) = _ + (if _ then _ else _)
    rw [shS_sg h4 hp k (by omega)]
    unfold shT
    by_cases g : Nat.testBit k p = true
    · rw [pick_t (by rw [hh]; exact g), if_pos g]
    · rw [pick_f (by rw [hh]; exact g), if_neg g]
theorem shM_sm {C : Nat → Nat → Int32} {P p : Nat} (h4 : P ≤ 4) (hp : p < P) : ∀ k, k ≤ 2 ^ P → shM C P p k = smF (fun i => worF C (nI i)) P p k
  | 0, _ => rfl
  | k + 1, hk => by
    have h16 := p2_lt h4
    have hh := hasP_n (f := k) (p := p) (by omega) (by omega)
    show pick _ (shM C P p k) (shM C P p k + _) = if _ then _ else _
    rw [shM_sm h4 hp k (by omega)]
    by_cases g : Nat.testBit k p = true
    · rw [pick_t (by rw [hh]; exact g), if_pos g]
    · rw [pick_f (by rw [hh]; exact g), if_neg g]
theorem sg_1_0 (W : Nat → Int32) : sgF W 1 0 (2 ^ 1) = smF W 1 0 (2 ^ 1) := by
  have o0 : ordsF 1 (nI 0) (nI 0) = 1 := by decide +kernel
  have o1 : ordsF 1 (nI 0) (nI 1) = 1 := by decide +kernel
  have a0 : facF (onesF (nI 0)) = 1 := by decide +kernel
  have b0 : facF (nI 1 - 1 - onesF (nI 0)) = 1 := by decide +kernel
  show (((0 : Int32) + -ordsF 1 (nI 0) (nI 0) * W 0) + ordsF 1 (nI 0) (nI 1) * W 1) = ((0 : Int32) + facF (onesF (nI 0)) * facF (nI 1 - 1 - onesF (nI 0)) * (W 1 - W 0))
  rw [o0, o1]
  rw [a0, b0]
  grind
theorem sg_2_0 (W : Nat → Int32) : sgF W 2 0 (2 ^ 2) = smF W 2 0 (2 ^ 2) := by
  have o0 : ordsF 2 (nI 0) (nI 0) = 1 := by decide +kernel
  have o1 : ordsF 2 (nI 0) (nI 1) = 1 := by decide +kernel
  have o2 : ordsF 2 (nI 0) (nI 2) = 1 := by decide +kernel
  have o3 : ordsF 2 (nI 0) (nI 3) = 1 := by decide +kernel
  have a0 : facF (onesF (nI 0)) = 1 := by decide +kernel
  have b0 : facF (nI 2 - 1 - onesF (nI 0)) = 1 := by decide +kernel
  have a2 : facF (onesF (nI 2)) = 1 := by decide +kernel
  have b2 : facF (nI 2 - 1 - onesF (nI 2)) = 1 := by decide +kernel
  show (((((0 : Int32) + -ordsF 2 (nI 0) (nI 0) * W 0) + ordsF 2 (nI 0) (nI 1) * W 1) + -ordsF 2 (nI 0) (nI 2) * W 2) + ordsF 2 (nI 0) (nI 3) * W 3) = (((0 : Int32) + facF (onesF (nI 0)) * facF (nI 2 - 1 - onesF (nI 0)) * (W 1 - W 0)) + facF (onesF (nI 2)) * facF (nI 2 - 1 - onesF (nI 2)) * (W 3 - W 2))
  rw [o0, o1, o2, o3]
  rw [a0, b0, a2, b2]
  grind
theorem sg_2_1 (W : Nat → Int32) : sgF W 2 1 (2 ^ 2) = smF W 2 1 (2 ^ 2) := by
  have o0 : ordsF 2 (nI 1) (nI 0) = 1 := by decide +kernel
  have o1 : ordsF 2 (nI 1) (nI 1) = 1 := by decide +kernel
  have o2 : ordsF 2 (nI 1) (nI 2) = 1 := by decide +kernel
  have o3 : ordsF 2 (nI 1) (nI 3) = 1 := by decide +kernel
  have a0 : facF (onesF (nI 0)) = 1 := by decide +kernel
  have b0 : facF (nI 2 - 1 - onesF (nI 0)) = 1 := by decide +kernel
  have a1 : facF (onesF (nI 1)) = 1 := by decide +kernel
  have b1 : facF (nI 2 - 1 - onesF (nI 1)) = 1 := by decide +kernel
  show (((((0 : Int32) + -ordsF 2 (nI 1) (nI 0) * W 0) + -ordsF 2 (nI 1) (nI 1) * W 1) + ordsF 2 (nI 1) (nI 2) * W 2) + ordsF 2 (nI 1) (nI 3) * W 3) = (((0 : Int32) + facF (onesF (nI 0)) * facF (nI 2 - 1 - onesF (nI 0)) * (W 2 - W 0)) + facF (onesF (nI 1)) * facF (nI 2 - 1 - onesF (nI 1)) * (W 3 - W 1))
  rw [o0, o1, o2, o3]
  rw [a0, b0, a1, b1]
  grind
theorem sg_3_0 (W : Nat → Int32) : sgF W 3 0 (2 ^ 3) = smF W 3 0 (2 ^ 3) := by
  have o0 : ordsF 3 (nI 0) (nI 0) = 2 := by decide +kernel
  have o1 : ordsF 3 (nI 0) (nI 1) = 2 := by decide +kernel
  have o2 : ordsF 3 (nI 0) (nI 2) = 1 := by decide +kernel
  have o3 : ordsF 3 (nI 0) (nI 3) = 1 := by decide +kernel
  have o4 : ordsF 3 (nI 0) (nI 4) = 1 := by decide +kernel
  have o5 : ordsF 3 (nI 0) (nI 5) = 1 := by decide +kernel
  have o6 : ordsF 3 (nI 0) (nI 6) = 2 := by decide +kernel
  have o7 : ordsF 3 (nI 0) (nI 7) = 2 := by decide +kernel
  have a0 : facF (onesF (nI 0)) = 1 := by decide +kernel
  have b0 : facF (nI 3 - 1 - onesF (nI 0)) = 2 := by decide +kernel
  have a2 : facF (onesF (nI 2)) = 1 := by decide +kernel
  have b2 : facF (nI 3 - 1 - onesF (nI 2)) = 1 := by decide +kernel
  have a4 : facF (onesF (nI 4)) = 1 := by decide +kernel
  have b4 : facF (nI 3 - 1 - onesF (nI 4)) = 1 := by decide +kernel
  have a6 : facF (onesF (nI 6)) = 2 := by decide +kernel
  have b6 : facF (nI 3 - 1 - onesF (nI 6)) = 1 := by decide +kernel
  show (((((((((0 : Int32) + -ordsF 3 (nI 0) (nI 0) * W 0) + ordsF 3 (nI 0) (nI 1) * W 1) + -ordsF 3 (nI 0) (nI 2) * W 2) + ordsF 3 (nI 0) (nI 3) * W 3) + -ordsF 3 (nI 0) (nI 4) * W 4) + ordsF 3 (nI 0) (nI 5) * W 5) + -ordsF 3 (nI 0) (nI 6) * W 6) + ordsF 3 (nI 0) (nI 7) * W 7) = (((((0 : Int32) + facF (onesF (nI 0)) * facF (nI 3 - 1 - onesF (nI 0)) * (W 1 - W 0)) + facF (onesF (nI 2)) * facF (nI 3 - 1 - onesF (nI 2)) * (W 3 - W 2)) + facF (onesF (nI 4)) * facF (nI 3 - 1 - onesF (nI 4)) * (W 5 - W 4)) + facF (onesF (nI 6)) * facF (nI 3 - 1 - onesF (nI 6)) * (W 7 - W 6))
  rw [o0, o1, o2, o3, o4, o5, o6, o7]
  rw [a0, b0, a2, b2, a4, b4, a6, b6]
  grind
theorem sg_3_1 (W : Nat → Int32) : sgF W 3 1 (2 ^ 3) = smF W 3 1 (2 ^ 3) := by
  have o0 : ordsF 3 (nI 1) (nI 0) = 2 := by decide +kernel
  have o1 : ordsF 3 (nI 1) (nI 1) = 1 := by decide +kernel
  have o2 : ordsF 3 (nI 1) (nI 2) = 2 := by decide +kernel
  have o3 : ordsF 3 (nI 1) (nI 3) = 1 := by decide +kernel
  have o4 : ordsF 3 (nI 1) (nI 4) = 1 := by decide +kernel
  have o5 : ordsF 3 (nI 1) (nI 5) = 2 := by decide +kernel
  have o6 : ordsF 3 (nI 1) (nI 6) = 1 := by decide +kernel
  have o7 : ordsF 3 (nI 1) (nI 7) = 2 := by decide +kernel
  have a0 : facF (onesF (nI 0)) = 1 := by decide +kernel
  have b0 : facF (nI 3 - 1 - onesF (nI 0)) = 2 := by decide +kernel
  have a1 : facF (onesF (nI 1)) = 1 := by decide +kernel
  have b1 : facF (nI 3 - 1 - onesF (nI 1)) = 1 := by decide +kernel
  have a4 : facF (onesF (nI 4)) = 1 := by decide +kernel
  have b4 : facF (nI 3 - 1 - onesF (nI 4)) = 1 := by decide +kernel
  have a5 : facF (onesF (nI 5)) = 2 := by decide +kernel
  have b5 : facF (nI 3 - 1 - onesF (nI 5)) = 1 := by decide +kernel
  show (((((((((0 : Int32) + -ordsF 3 (nI 1) (nI 0) * W 0) + -ordsF 3 (nI 1) (nI 1) * W 1) + ordsF 3 (nI 1) (nI 2) * W 2) + ordsF 3 (nI 1) (nI 3) * W 3) + -ordsF 3 (nI 1) (nI 4) * W 4) + -ordsF 3 (nI 1) (nI 5) * W 5) + ordsF 3 (nI 1) (nI 6) * W 6) + ordsF 3 (nI 1) (nI 7) * W 7) = (((((0 : Int32) + facF (onesF (nI 0)) * facF (nI 3 - 1 - onesF (nI 0)) * (W 2 - W 0)) + facF (onesF (nI 1)) * facF (nI 3 - 1 - onesF (nI 1)) * (W 3 - W 1)) + facF (onesF (nI 4)) * facF (nI 3 - 1 - onesF (nI 4)) * (W 6 - W 4)) + facF (onesF (nI 5)) * facF (nI 3 - 1 - onesF (nI 5)) * (W 7 - W 5))
  rw [o0, o1, o2, o3, o4, o5, o6, o7]
  rw [a0, b0, a1, b1, a4, b4, a5, b5]
  grind
theorem sg_3_2 (W : Nat → Int32) : sgF W 3 2 (2 ^ 3) = smF W 3 2 (2 ^ 3) := by
  have o0 : ordsF 3 (nI 2) (nI 0) = 2 := by decide +kernel
  have o1 : ordsF 3 (nI 2) (nI 1) = 1 := by decide +kernel
  have o2 : ordsF 3 (nI 2) (nI 2) = 1 := by decide +kernel
  have o3 : ordsF 3 (nI 2) (nI 3) = 2 := by decide +kernel
  have o4 : ordsF 3 (nI 2) (nI 4) = 2 := by decide +kernel
  have o5 : ordsF 3 (nI 2) (nI 5) = 1 := by decide +kernel
  have o6 : ordsF 3 (nI 2) (nI 6) = 1 := by decide +kernel
  have o7 : ordsF 3 (nI 2) (nI 7) = 2 := by decide +kernel
  have a0 : facF (onesF (nI 0)) = 1 := by decide +kernel
  have b0 : facF (nI 3 - 1 - onesF (nI 0)) = 2 := by decide +kernel
  have a1 : facF (onesF (nI 1)) = 1 := by decide +kernel
  have b1 : facF (nI 3 - 1 - onesF (nI 1)) = 1 := by decide +kernel
  have a2 : facF (onesF (nI 2)) = 1 := by decide +kernel
  have b2 : facF (nI 3 - 1 - onesF (nI 2)) = 1 := by decide +kernel
  have a3 : facF (onesF (nI 3)) = 2 := by decide +kernel
  have b3 : facF (nI 3 - 1 - onesF (nI 3)) = 1 := by decide +kernel
  show (((((((((0 : Int32) + -ordsF 3 (nI 2) (nI 0) * W 0) + -ordsF 3 (nI 2) (nI 1) * W 1) + -ordsF 3 (nI 2) (nI 2) * W 2) + -ordsF 3 (nI 2) (nI 3) * W 3) + ordsF 3 (nI 2) (nI 4) * W 4) + ordsF 3 (nI 2) (nI 5) * W 5) + ordsF 3 (nI 2) (nI 6) * W 6) + ordsF 3 (nI 2) (nI 7) * W 7) = (((((0 : Int32) + facF (onesF (nI 0)) * facF (nI 3 - 1 - onesF (nI 0)) * (W 4 - W 0)) + facF (onesF (nI 1)) * facF (nI 3 - 1 - onesF (nI 1)) * (W 5 - W 1)) + facF (onesF (nI 2)) * facF (nI 3 - 1 - onesF (nI 2)) * (W 6 - W 2)) + facF (onesF (nI 3)) * facF (nI 3 - 1 - onesF (nI 3)) * (W 7 - W 3))
  rw [o0, o1, o2, o3, o4, o5, o6, o7]
  rw [a0, b0, a1, b1, a2, b2, a3, b3]
  grind
theorem sg_4_0 (W : Nat → Int32) : sgF W 4 0 (2 ^ 4) = smF W 4 0 (2 ^ 4) := by
  have o0 : ordsF 4 (nI 0) (nI 0) = 6 := by decide +kernel
  have o1 : ordsF 4 (nI 0) (nI 1) = 6 := by decide +kernel
  have o2 : ordsF 4 (nI 0) (nI 2) = 2 := by decide +kernel
  have o3 : ordsF 4 (nI 0) (nI 3) = 2 := by decide +kernel
  have o4 : ordsF 4 (nI 0) (nI 4) = 2 := by decide +kernel
  have o5 : ordsF 4 (nI 0) (nI 5) = 2 := by decide +kernel
  have o6 : ordsF 4 (nI 0) (nI 6) = 2 := by decide +kernel
  have o7 : ordsF 4 (nI 0) (nI 7) = 2 := by decide +kernel
  have o8 : ordsF 4 (nI 0) (nI 8) = 2 := by decide +kernel
  have o9 : ordsF 4 (nI 0) (nI 9) = 2 := by decide +kernel
  have o10 : ordsF 4 (nI 0) (nI 10) = 2 := by decide +kernel
  have o11 : ordsF 4 (nI 0) (nI 11) = 2 := by decide +kernel
  have o12 : ordsF 4 (nI 0) (nI 12) = 2 := by decide +kernel
  have o13 : ordsF 4 (nI 0) (nI 13) = 2 := by decide +kernel
  have o14 : ordsF 4 (nI 0) (nI 14) = 6 := by decide +kernel
  have o15 : ordsF 4 (nI 0) (nI 15) = 6 := by decide +kernel
  have a0 : facF (onesF (nI 0)) = 1 := by decide +kernel
  have b0 : facF (nI 4 - 1 - onesF (nI 0)) = 6 := by decide +kernel
  have a2 : facF (onesF (nI 2)) = 1 := by decide +kernel
  have b2 : facF (nI 4 - 1 - onesF (nI 2)) = 2 := by decide +kernel
  have a4 : facF (onesF (nI 4)) = 1 := by decide +kernel
  have b4 : facF (nI 4 - 1 - onesF (nI 4)) = 2 := by decide +kernel
  have a6 : facF (onesF (nI 6)) = 2 := by decide +kernel
  have b6 : facF (nI 4 - 1 - onesF (nI 6)) = 1 := by decide +kernel
  have a8 : facF (onesF (nI 8)) = 1 := by decide +kernel
  have b8 : facF (nI 4 - 1 - onesF (nI 8)) = 2 := by decide +kernel
  have a10 : facF (onesF (nI 10)) = 2 := by decide +kernel
  have b10 : facF (nI 4 - 1 - onesF (nI 10)) = 1 := by decide +kernel
  have a12 : facF (onesF (nI 12)) = 2 := by decide +kernel
  have b12 : facF (nI 4 - 1 - onesF (nI 12)) = 1 := by decide +kernel
  have a14 : facF (onesF (nI 14)) = 6 := by decide +kernel
  have b14 : facF (nI 4 - 1 - onesF (nI 14)) = 1 := by decide +kernel
  show (((((((((((((((((0 : Int32) + -ordsF 4 (nI 0) (nI 0) * W 0) + ordsF 4 (nI 0) (nI 1) * W 1) + -ordsF 4 (nI 0) (nI 2) * W 2) + ordsF 4 (nI 0) (nI 3) * W 3) + -ordsF 4 (nI 0) (nI 4) * W 4) + ordsF 4 (nI 0) (nI 5) * W 5) + -ordsF 4 (nI 0) (nI 6) * W 6) + ordsF 4 (nI 0) (nI 7) * W 7) + -ordsF 4 (nI 0) (nI 8) * W 8) + ordsF 4 (nI 0) (nI 9) * W 9) + -ordsF 4 (nI 0) (nI 10) * W 10) + ordsF 4 (nI 0) (nI 11) * W 11) + -ordsF 4 (nI 0) (nI 12) * W 12) + ordsF 4 (nI 0) (nI 13) * W 13) + -ordsF 4 (nI 0) (nI 14) * W 14) + ordsF 4 (nI 0) (nI 15) * W 15) = (((((((((0 : Int32) + facF (onesF (nI 0)) * facF (nI 4 - 1 - onesF (nI 0)) * (W 1 - W 0)) + facF (onesF (nI 2)) * facF (nI 4 - 1 - onesF (nI 2)) * (W 3 - W 2)) + facF (onesF (nI 4)) * facF (nI 4 - 1 - onesF (nI 4)) * (W 5 - W 4)) + facF (onesF (nI 6)) * facF (nI 4 - 1 - onesF (nI 6)) * (W 7 - W 6)) + facF (onesF (nI 8)) * facF (nI 4 - 1 - onesF (nI 8)) * (W 9 - W 8)) + facF (onesF (nI 10)) * facF (nI 4 - 1 - onesF (nI 10)) * (W 11 - W 10)) + facF (onesF (nI 12)) * facF (nI 4 - 1 - onesF (nI 12)) * (W 13 - W 12)) + facF (onesF (nI 14)) * facF (nI 4 - 1 - onesF (nI 14)) * (W 15 - W 14))
  rw [o0, o1, o2, o3, o4, o5, o6, o7, o8, o9, o10, o11, o12, o13, o14, o15]
  rw [a0, b0, a2, b2, a4, b4, a6, b6, a8, b8, a10, b10, a12, b12, a14, b14]
  grind
theorem sg_4_1 (W : Nat → Int32) : sgF W 4 1 (2 ^ 4) = smF W 4 1 (2 ^ 4) := by
  have o0 : ordsF 4 (nI 1) (nI 0) = 6 := by decide +kernel
  have o1 : ordsF 4 (nI 1) (nI 1) = 2 := by decide +kernel
  have o2 : ordsF 4 (nI 1) (nI 2) = 6 := by decide +kernel
  have o3 : ordsF 4 (nI 1) (nI 3) = 2 := by decide +kernel
  have o4 : ordsF 4 (nI 1) (nI 4) = 2 := by decide +kernel
  have o5 : ordsF 4 (nI 1) (nI 5) = 2 := by decide +kernel
  have o6 : ordsF 4 (nI 1) (nI 6) = 2 := by decide +kernel
  have o7 : ordsF 4 (nI 1) (nI 7) = 2 := by decide +kernel
  have o8 : ordsF 4 (nI 1) (nI 8) = 2 := by decide +kernel
  have o9 : ordsF 4 (nI 1) (nI 9) = 2 := by decide +kernel
  have o10 : ordsF 4 (nI 1) (nI 10) = 2 := by decide +kernel
  have o11 : ordsF 4 (nI 1) (nI 11) = 2 := by decide +kernel
  have o12 : ordsF 4 (nI 1) (nI 12) = 2 := by decide +kernel
  have o13 : ordsF 4 (nI 1) (nI 13) = 6 := by decide +kernel
  have o14 : ordsF 4 (nI 1) (nI 14) = 2 := by decide +kernel
  have o15 : ordsF 4 (nI 1) (nI 15) = 6 := by decide +kernel
  have a0 : facF (onesF (nI 0)) = 1 := by decide +kernel
  have b0 : facF (nI 4 - 1 - onesF (nI 0)) = 6 := by decide +kernel
  have a1 : facF (onesF (nI 1)) = 1 := by decide +kernel
  have b1 : facF (nI 4 - 1 - onesF (nI 1)) = 2 := by decide +kernel
  have a4 : facF (onesF (nI 4)) = 1 := by decide +kernel
  have b4 : facF (nI 4 - 1 - onesF (nI 4)) = 2 := by decide +kernel
  have a5 : facF (onesF (nI 5)) = 2 := by decide +kernel
  have b5 : facF (nI 4 - 1 - onesF (nI 5)) = 1 := by decide +kernel
  have a8 : facF (onesF (nI 8)) = 1 := by decide +kernel
  have b8 : facF (nI 4 - 1 - onesF (nI 8)) = 2 := by decide +kernel
  have a9 : facF (onesF (nI 9)) = 2 := by decide +kernel
  have b9 : facF (nI 4 - 1 - onesF (nI 9)) = 1 := by decide +kernel
  have a12 : facF (onesF (nI 12)) = 2 := by decide +kernel
  have b12 : facF (nI 4 - 1 - onesF (nI 12)) = 1 := by decide +kernel
  have a13 : facF (onesF (nI 13)) = 6 := by decide +kernel
  have b13 : facF (nI 4 - 1 - onesF (nI 13)) = 1 := by decide +kernel
  show (((((((((((((((((0 : Int32) + -ordsF 4 (nI 1) (nI 0) * W 0) + -ordsF 4 (nI 1) (nI 1) * W 1) + ordsF 4 (nI 1) (nI 2) * W 2) + ordsF 4 (nI 1) (nI 3) * W 3) + -ordsF 4 (nI 1) (nI 4) * W 4) + -ordsF 4 (nI 1) (nI 5) * W 5) + ordsF 4 (nI 1) (nI 6) * W 6) + ordsF 4 (nI 1) (nI 7) * W 7) + -ordsF 4 (nI 1) (nI 8) * W 8) + -ordsF 4 (nI 1) (nI 9) * W 9) + ordsF 4 (nI 1) (nI 10) * W 10) + ordsF 4 (nI 1) (nI 11) * W 11) + -ordsF 4 (nI 1) (nI 12) * W 12) + -ordsF 4 (nI 1) (nI 13) * W 13) + ordsF 4 (nI 1) (nI 14) * W 14) + ordsF 4 (nI 1) (nI 15) * W 15) = (((((((((0 : Int32) + facF (onesF (nI 0)) * facF (nI 4 - 1 - onesF (nI 0)) * (W 2 - W 0)) + facF (onesF (nI 1)) * facF (nI 4 - 1 - onesF (nI 1)) * (W 3 - W 1)) + facF (onesF (nI 4)) * facF (nI 4 - 1 - onesF (nI 4)) * (W 6 - W 4)) + facF (onesF (nI 5)) * facF (nI 4 - 1 - onesF (nI 5)) * (W 7 - W 5)) + facF (onesF (nI 8)) * facF (nI 4 - 1 - onesF (nI 8)) * (W 10 - W 8)) + facF (onesF (nI 9)) * facF (nI 4 - 1 - onesF (nI 9)) * (W 11 - W 9)) + facF (onesF (nI 12)) * facF (nI 4 - 1 - onesF (nI 12)) * (W 14 - W 12)) + facF (onesF (nI 13)) * facF (nI 4 - 1 - onesF (nI 13)) * (W 15 - W 13))
  rw [o0, o1, o2, o3, o4, o5, o6, o7, o8, o9, o10, o11, o12, o13, o14, o15]
  rw [a0, b0, a1, b1, a4, b4, a5, b5, a8, b8, a9, b9, a12, b12, a13, b13]
  grind
theorem sg_4_2 (W : Nat → Int32) : sgF W 4 2 (2 ^ 4) = smF W 4 2 (2 ^ 4) := by
  have o0 : ordsF 4 (nI 2) (nI 0) = 6 := by decide +kernel
  have o1 : ordsF 4 (nI 2) (nI 1) = 2 := by decide +kernel
  have o2 : ordsF 4 (nI 2) (nI 2) = 2 := by decide +kernel
  have o3 : ordsF 4 (nI 2) (nI 3) = 2 := by decide +kernel
  have o4 : ordsF 4 (nI 2) (nI 4) = 6 := by decide +kernel
  have o5 : ordsF 4 (nI 2) (nI 5) = 2 := by decide +kernel
  have o6 : ordsF 4 (nI 2) (nI 6) = 2 := by decide +kernel
  have o7 : ordsF 4 (nI 2) (nI 7) = 2 := by decide +kernel
  have o8 : ordsF 4 (nI 2) (nI 8) = 2 := by decide +kernel
  have o9 : ordsF 4 (nI 2) (nI 9) = 2 := by decide +kernel
  have o10 : ordsF 4 (nI 2) (nI 10) = 2 := by decide +kernel
  have o11 : ordsF 4 (nI 2) (nI 11) = 6 := by decide +kernel
  have o12 : ordsF 4 (nI 2) (nI 12) = 2 := by decide +kernel
  have o13 : ordsF 4 (nI 2) (nI 13) = 2 := by decide +kernel
  have o14 : ordsF 4 (nI 2) (nI 14) = 2 := by decide +kernel
  have o15 : ordsF 4 (nI 2) (nI 15) = 6 := by decide +kernel
  have a0 : facF (onesF (nI 0)) = 1 := by decide +kernel
  have b0 : facF (nI 4 - 1 - onesF (nI 0)) = 6 := by decide +kernel
  have a1 : facF (onesF (nI 1)) = 1 := by decide +kernel
  have b1 : facF (nI 4 - 1 - onesF (nI 1)) = 2 := by decide +kernel
  have a2 : facF (onesF (nI 2)) = 1 := by decide +kernel
  have b2 : facF (nI 4 - 1 - onesF (nI 2)) = 2 := by decide +kernel
  have a3 : facF (onesF (nI 3)) = 2 := by decide +kernel
  have b3 : facF (nI 4 - 1 - onesF (nI 3)) = 1 := by decide +kernel
  have a8 : facF (onesF (nI 8)) = 1 := by decide +kernel
  have b8 : facF (nI 4 - 1 - onesF (nI 8)) = 2 := by decide +kernel
  have a9 : facF (onesF (nI 9)) = 2 := by decide +kernel
  have b9 : facF (nI 4 - 1 - onesF (nI 9)) = 1 := by decide +kernel
  have a10 : facF (onesF (nI 10)) = 2 := by decide +kernel
  have b10 : facF (nI 4 - 1 - onesF (nI 10)) = 1 := by decide +kernel
  have a11 : facF (onesF (nI 11)) = 6 := by decide +kernel
  have b11 : facF (nI 4 - 1 - onesF (nI 11)) = 1 := by decide +kernel
  show (((((((((((((((((0 : Int32) + -ordsF 4 (nI 2) (nI 0) * W 0) + -ordsF 4 (nI 2) (nI 1) * W 1) + -ordsF 4 (nI 2) (nI 2) * W 2) + -ordsF 4 (nI 2) (nI 3) * W 3) + ordsF 4 (nI 2) (nI 4) * W 4) + ordsF 4 (nI 2) (nI 5) * W 5) + ordsF 4 (nI 2) (nI 6) * W 6) + ordsF 4 (nI 2) (nI 7) * W 7) + -ordsF 4 (nI 2) (nI 8) * W 8) + -ordsF 4 (nI 2) (nI 9) * W 9) + -ordsF 4 (nI 2) (nI 10) * W 10) + -ordsF 4 (nI 2) (nI 11) * W 11) + ordsF 4 (nI 2) (nI 12) * W 12) + ordsF 4 (nI 2) (nI 13) * W 13) + ordsF 4 (nI 2) (nI 14) * W 14) + ordsF 4 (nI 2) (nI 15) * W 15) = (((((((((0 : Int32) + facF (onesF (nI 0)) * facF (nI 4 - 1 - onesF (nI 0)) * (W 4 - W 0)) + facF (onesF (nI 1)) * facF (nI 4 - 1 - onesF (nI 1)) * (W 5 - W 1)) + facF (onesF (nI 2)) * facF (nI 4 - 1 - onesF (nI 2)) * (W 6 - W 2)) + facF (onesF (nI 3)) * facF (nI 4 - 1 - onesF (nI 3)) * (W 7 - W 3)) + facF (onesF (nI 8)) * facF (nI 4 - 1 - onesF (nI 8)) * (W 12 - W 8)) + facF (onesF (nI 9)) * facF (nI 4 - 1 - onesF (nI 9)) * (W 13 - W 9)) + facF (onesF (nI 10)) * facF (nI 4 - 1 - onesF (nI 10)) * (W 14 - W 10)) + facF (onesF (nI 11)) * facF (nI 4 - 1 - onesF (nI 11)) * (W 15 - W 11))
  rw [o0, o1, o2, o3, o4, o5, o6, o7, o8, o9, o10, o11, o12, o13, o14, o15]
  rw [a0, b0, a1, b1, a2, b2, a3, b3, a8, b8, a9, b9, a10, b10, a11, b11]
  grind
theorem sg_4_3 (W : Nat → Int32) : sgF W 4 3 (2 ^ 4) = smF W 4 3 (2 ^ 4) := by
  have o0 : ordsF 4 (nI 3) (nI 0) = 6 := by decide +kernel
  have o1 : ordsF 4 (nI 3) (nI 1) = 2 := by decide +kernel
  have o2 : ordsF 4 (nI 3) (nI 2) = 2 := by decide +kernel
  have o3 : ordsF 4 (nI 3) (nI 3) = 2 := by decide +kernel
  have o4 : ordsF 4 (nI 3) (nI 4) = 2 := by decide +kernel
  have o5 : ordsF 4 (nI 3) (nI 5) = 2 := by decide +kernel
  have o6 : ordsF 4 (nI 3) (nI 6) = 2 := by decide +kernel
  have o7 : ordsF 4 (nI 3) (nI 7) = 6 := by decide +kernel
  have o8 : ordsF 4 (nI 3) (nI 8) = 6 := by decide +kernel
  have o9 : ordsF 4 (nI 3) (nI 9) = 2 := by decide +kernel
  have o10 : ordsF 4 (nI 3) (nI 10) = 2 := by decide +kernel
  have o11 : ordsF 4 (nI 3) (nI 11) = 2 := by decide +kernel
  have o12 : ordsF 4 (nI 3) (nI 12) = 2 := by decide +kernel
  have o13 : ordsF 4 (nI 3) (nI 13) = 2 := by decide +kernel
  have o14 : ordsF 4 (nI 3) (nI 14) = 2 := by decide +kernel
  have o15 : ordsF 4 (nI 3) (nI 15) = 6 := by decide +kernel
  have a0 : facF (onesF (nI 0)) = 1 := by decide +kernel
  have b0 : facF (nI 4 - 1 - onesF (nI 0)) = 6 := by decide +kernel
  have a1 : facF (onesF (nI 1)) = 1 := by decide +kernel
  have b1 : facF (nI 4 - 1 - onesF (nI 1)) = 2 := by decide +kernel
  have a2 : facF (onesF (nI 2)) = 1 := by decide +kernel
  have b2 : facF (nI 4 - 1 - onesF (nI 2)) = 2 := by decide +kernel
  have a3 : facF (onesF (nI 3)) = 2 := by decide +kernel
  have b3 : facF (nI 4 - 1 - onesF (nI 3)) = 1 := by decide +kernel
  have a4 : facF (onesF (nI 4)) = 1 := by decide +kernel
  have b4 : facF (nI 4 - 1 - onesF (nI 4)) = 2 := by decide +kernel
  have a5 : facF (onesF (nI 5)) = 2 := by decide +kernel
  have b5 : facF (nI 4 - 1 - onesF (nI 5)) = 1 := by decide +kernel
  have a6 : facF (onesF (nI 6)) = 2 := by decide +kernel
  have b6 : facF (nI 4 - 1 - onesF (nI 6)) = 1 := by decide +kernel
  have a7 : facF (onesF (nI 7)) = 6 := by decide +kernel
  have b7 : facF (nI 4 - 1 - onesF (nI 7)) = 1 := by decide +kernel
  show (((((((((((((((((0 : Int32) + -ordsF 4 (nI 3) (nI 0) * W 0) + -ordsF 4 (nI 3) (nI 1) * W 1) + -ordsF 4 (nI 3) (nI 2) * W 2) + -ordsF 4 (nI 3) (nI 3) * W 3) + -ordsF 4 (nI 3) (nI 4) * W 4) + -ordsF 4 (nI 3) (nI 5) * W 5) + -ordsF 4 (nI 3) (nI 6) * W 6) + -ordsF 4 (nI 3) (nI 7) * W 7) + ordsF 4 (nI 3) (nI 8) * W 8) + ordsF 4 (nI 3) (nI 9) * W 9) + ordsF 4 (nI 3) (nI 10) * W 10) + ordsF 4 (nI 3) (nI 11) * W 11) + ordsF 4 (nI 3) (nI 12) * W 12) + ordsF 4 (nI 3) (nI 13) * W 13) + ordsF 4 (nI 3) (nI 14) * W 14) + ordsF 4 (nI 3) (nI 15) * W 15) = (((((((((0 : Int32) + facF (onesF (nI 0)) * facF (nI 4 - 1 - onesF (nI 0)) * (W 8 - W 0)) + facF (onesF (nI 1)) * facF (nI 4 - 1 - onesF (nI 1)) * (W 9 - W 1)) + facF (onesF (nI 2)) * facF (nI 4 - 1 - onesF (nI 2)) * (W 10 - W 2)) + facF (onesF (nI 3)) * facF (nI 4 - 1 - onesF (nI 3)) * (W 11 - W 3)) + facF (onesF (nI 4)) * facF (nI 4 - 1 - onesF (nI 4)) * (W 12 - W 4)) + facF (onesF (nI 5)) * facF (nI 4 - 1 - onesF (nI 5)) * (W 13 - W 5)) + facF (onesF (nI 6)) * facF (nI 4 - 1 - onesF (nI 6)) * (W 14 - W 6)) + facF (onesF (nI 7)) * facF (nI 4 - 1 - onesF (nI 7)) * (W 15 - W 7))
  rw [o0, o1, o2, o3, o4, o5, o6, o7, o8, o9, o10, o11, o12, o13, o14, o15]
  rw [a0, b0, a1, b1, a2, b2, a3, b3, a4, b4, a5, b5, a6, b6, a7, b7]
  grind
theorem sg_all {P p : Nat} (h4 : P ≤ 4) (hp : p < P) (W : Nat → Int32) : sgF W P p (2 ^ P) = smF W P p (2 ^ P) := by
  have hP : P = 1 ∨ P = 2 ∨ P = 3 ∨ P = 4 := by omega
  have hq : p = 0 ∨ p = 1 ∨ p = 2 ∨ p = 3 := by omega
  rcases hP with rfl | rfl | rfl | rfl
  · rcases hq with rfl | rfl | rfl | rfl
    · exact sg_1_0 W
    · omega
    · omega
    · omega
  · rcases hq with rfl | rfl | rfl | rfl
    · exact sg_2_0 W
    · exact sg_2_1 W
    · omega
    · omega
  · rcases hq with rfl | rfl | rfl | rfl
    · exact sg_3_0 W
    · exact sg_3_1 W
    · exact sg_3_2 W
    · omega
  · rcases hq with rfl | rfl | rfl | rfl
    · exact sg_4_0 W
    · exact sg_4_1 W
    · exact sg_4_2 W
    · exact sg_4_3 W
theorem co_share (p u : Int32) : Co S_X6_share S_X7_share [.ref 0, .int p, .int u] [.ref 71, .int p, .int u] := by
  intro n C z h hn
  obtain ⟨P, K, L, nx, ct, sn, h⟩ := h
  have s := h.ak.s
  have h4 := s.h4
  refine co_ask h (fun nb Q q => s_X6_share h.ak.rc q) fun nb Q C1 v hq => ⟨C, C1, z, P, K, _, p, u, rfl, rfl, h.aq hn, v, ?_⟩
  have e : pick (okPost C p) (fracF (shM C P p.toNatClampNeg (2 ^ P)) (facF (nI P)) u) (-1) = shareA C P p u := by
    unfold shareA
    by_cases g : okPost C p
    · rw [pick_t g, pick_t g]
      obtain ⟨j, hj, rfl⟩ := okPost_at s g
      obtain ⟨b, ⟨hb0, hb⟩, eb⟩ := fac_nI P h4
      rw [nI_clamp (by omega), eb, low_frac hb0 hb, shM_sm h4 hj _ (Nat.le_refl _), shS_sg h4 hj _ (Nat.le_refl _), sg_all h4 hj]
    · rw [pick_f g, pick_f g]
  rw [e]
  exact hq
