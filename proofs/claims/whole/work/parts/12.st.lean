/-! the class's State: reads -/
def rgetf (f : Nat → Int32) (p w : Int32) : Int32 := if p < 0 ∨ 4 ≤ p ∨ w < 1 ∨ 8 < w then -9 else f (p * 8 + w - 1).toNatClampNeg
def S_X4_get : jSp := fun _ vs mem Q => match vs with
  | [.ref s, .int p, .int w] => ∃ d C z, mem = memS d C z ∧ jSt s d ∧ Q (some (.int (rgetf (cellsOf (C s)) p w))) mem
  | _ => False
def F_X4_get_0 : Nat → jT := fun pc => (bif Nat.blt pc 10 then (bif Nat.blt pc 5 then (bif Nat.blt pc 1 then (bif Nat.beq pc 0 then J_iload 1 1 else jbad) else (bif Nat.blt pc 4 then (bif Nat.beq pc 1 then J_iflt 20 4 else jbad) else (bif Nat.beq pc 4 then J_iload 1 5 else jbad))) else (bif Nat.blt pc 6 then (bif Nat.beq pc 5 then J_iconst 4 6 else jbad) else (bif Nat.blt pc 9 then (bif Nat.beq pc 6 then J_icge 20 9 else jbad) else (bif Nat.beq pc 9 then J_iload 2 10 else jbad)))) else (bif Nat.blt pc 15 then (bif Nat.blt pc 11 then (bif Nat.beq pc 10 then J_iconst 1 11 else jbad) else (bif Nat.blt pc 14 then (bif Nat.beq pc 11 then J_iclt 20 14 else jbad) else (bif Nat.beq pc 14 then J_iload 2 15 else jbad))) else (bif Nat.blt pc 17 then (bif Nat.beq pc 15 then J_iconst 8 17 else jbad) else (bif Nat.blt pc 20 then (bif Nat.beq pc 17 then J_icle 23 20 else jbad) else (bif Nat.beq pc 20 then J_iconst (-9) 22 else jbad)))))
theorem ftl_X4_get_0 : F_X4_get_0 0 = J_iload 1 1 := rfl
theorem ftl_X4_get_1 : F_X4_get_0 1 = J_iflt 20 4 := rfl
theorem ftl_X4_get_4 : F_X4_get_0 4 = J_iload 1 5 := rfl
theorem ftl_X4_get_5 : F_X4_get_0 5 = J_iconst 4 6 := rfl
theorem ftl_X4_get_6 : F_X4_get_0 6 = J_icge 20 9 := rfl
theorem ftl_X4_get_9 : F_X4_get_0 9 = J_iload 2 10 := rfl
theorem ftl_X4_get_10 : F_X4_get_0 10 = J_iconst 1 11 := rfl
theorem ftl_X4_get_11 : F_X4_get_0 11 = J_iclt 20 14 := rfl
theorem ftl_X4_get_14 : F_X4_get_0 14 = J_iload 2 15 := rfl
theorem ftl_X4_get_15 : F_X4_get_0 15 = J_iconst 8 17 := rfl
theorem ftl_X4_get_17 : F_X4_get_0 17 = J_icle 23 20 := rfl
theorem ftl_X4_get_20 : F_X4_get_0 20 = J_iconst (-9) 22 := rfl
theorem F_X4_get_0_ok : jOK Y_X4_get none (F_X4_get_0) := (jOK_node (jOK_node (jOK_node (jOK_leaf (sn_iload_n dX4_get_0 rfl rfl)) (jOK_node (jOK_leaf (sn_iflt dX4_get_1 rfl rfl)) (jOK_leaf (sn_iload_n dX4_get_4 rfl rfl)))) (jOK_node (jOK_leaf (sn_iconst dX4_get_5 rfl rfl)) (jOK_node (jOK_leaf (sn_icge dX4_get_6 rfl rfl)) (jOK_leaf (sn_iload_n dX4_get_9 rfl rfl))))) (jOK_node (jOK_node (jOK_leaf (sn_iconst dX4_get_10 rfl rfl)) (jOK_node (jOK_leaf (sn_iclt dX4_get_11 rfl rfl)) (jOK_leaf (sn_iload_n dX4_get_14 rfl rfl)))) (jOK_node (jOK_leaf (sn_bipush dX4_get_15 rfl rfl)) (jOK_node (jOK_leaf (sn_icle dX4_get_17 rfl rfl)) (jOK_leaf (sn_bipush dX4_get_20 rfl rfl))))))
def F_X4_get_22 : Nat → jT := fun pc => (bif Nat.blt pc 31 then (bif Nat.blt pc 27 then (bif Nat.blt pc 23 then (bif Nat.beq pc 22 then J_ireturn 0 0 else jbad) else (bif Nat.blt pc 24 then (bif Nat.beq pc 23 then J_aload 0 24 else jbad) else (bif Nat.beq pc 24 then J_getfield 4 0 27 else jbad))) else (bif Nat.blt pc 28 then (bif Nat.beq pc 27 then J_iload 1 28 else jbad) else (bif Nat.blt pc 30 then (bif Nat.beq pc 28 then J_iconst 8 30 else jbad) else (bif Nat.beq pc 30 then J_imul 31 else jbad)))) else (bif Nat.blt pc 34 then (bif Nat.blt pc 32 then (bif Nat.beq pc 31 then J_iload 2 32 else jbad) else (bif Nat.blt pc 33 then (bif Nat.beq pc 32 then J_iadd 33 else jbad) else (bif Nat.beq pc 33 then J_iconst 1 34 else jbad))) else (bif Nat.blt pc 35 then (bif Nat.beq pc 34 then J_isub 35 else jbad) else (bif Nat.blt pc 36 then (bif Nat.beq pc 35 then J_iaload 36 else jbad) else (bif Nat.beq pc 36 then J_ireturn 0 0 else jbad)))))
theorem ftl_X4_get_22 : F_X4_get_22 22 = J_ireturn 0 0 := rfl
theorem ftl_X4_get_23 : F_X4_get_22 23 = J_aload 0 24 := rfl
theorem ftl_X4_get_24 : F_X4_get_22 24 = J_getfield 4 0 27 := rfl
theorem ftl_X4_get_27 : F_X4_get_22 27 = J_iload 1 28 := rfl
theorem ftl_X4_get_28 : F_X4_get_22 28 = J_iconst 8 30 := rfl
theorem ftl_X4_get_30 : F_X4_get_22 30 = J_imul 31 := rfl
theorem ftl_X4_get_31 : F_X4_get_22 31 = J_iload 2 32 := rfl
theorem ftl_X4_get_32 : F_X4_get_22 32 = J_iadd 33 := rfl
theorem ftl_X4_get_33 : F_X4_get_22 33 = J_iconst 1 34 := rfl
theorem ftl_X4_get_34 : F_X4_get_22 34 = J_isub 35 := rfl
theorem ftl_X4_get_35 : F_X4_get_22 35 = J_iaload 36 := rfl
theorem ftl_X4_get_36 : F_X4_get_22 36 = J_ireturn 0 0 := rfl
theorem F_X4_get_22_ok : jOK Y_X4_get none (F_X4_get_22) := (jOK_node (jOK_node (jOK_node (jOK_leaf (sn_ireturn dX4_get_22 rfl rfl)) (jOK_node (jOK_leaf (sn_aload_n dX4_get_23 rfl rfl)) (jOK_leaf (sn_getfield dX4_get_24 rfl rfl (by decide) tw_89 jin4)))) (jOK_node (jOK_leaf (sn_iload_n dX4_get_27 rfl rfl)) (jOK_node (jOK_leaf (sn_bipush dX4_get_28 rfl rfl)) (jOK_leaf (sn_imul dX4_get_30 rfl))))) (jOK_node (jOK_node (jOK_leaf (sn_iload_n dX4_get_31 rfl rfl)) (jOK_node (jOK_leaf (sn_iadd dX4_get_32 rfl)) (jOK_leaf (sn_iconst dX4_get_33 rfl rfl)))) (jOK_node (jOK_leaf (sn_isub dX4_get_34 rfl)) (jOK_node (jOK_leaf (sn_iaload dX4_get_35 rfl)) (jOK_leaf (sn_ireturn dX4_get_36 rfl rfl))))))
def F_X4_get_0_36 : Nat → jT := fun pc => bif Nat.blt pc 22 then F_X4_get_0 pc else F_X4_get_22 pc
theorem F_X4_get_0_36_ok : jOK Y_X4_get none (F_X4_get_0_36) := jOK_node (F_X4_get_0_ok) (F_X4_get_22_ok)
def F_X4_get : Nat → jT := F_X4_get_0_36
theorem OK_X4_get : jOK Y_X4_get none (F_X4_get) := F_X4_get_0_36_ok
theorem ft_X4_get_0 : F_X4_get 0 = J_iload 1 1 := ftl_X4_get_0
theorem ft_X4_get_1 : F_X4_get 1 = J_iflt 20 4 := ftl_X4_get_1
theorem ft_X4_get_4 : F_X4_get 4 = J_iload 1 5 := ftl_X4_get_4
theorem ft_X4_get_5 : F_X4_get 5 = J_iconst 4 6 := ftl_X4_get_5
theorem ft_X4_get_6 : F_X4_get 6 = J_icge 20 9 := ftl_X4_get_6
theorem ft_X4_get_9 : F_X4_get 9 = J_iload 2 10 := ftl_X4_get_9
theorem ft_X4_get_10 : F_X4_get 10 = J_iconst 1 11 := ftl_X4_get_10
theorem ft_X4_get_11 : F_X4_get 11 = J_iclt 20 14 := ftl_X4_get_11
theorem ft_X4_get_14 : F_X4_get 14 = J_iload 2 15 := ftl_X4_get_14
theorem ft_X4_get_15 : F_X4_get 15 = J_iconst 8 17 := ftl_X4_get_15
theorem ft_X4_get_17 : F_X4_get 17 = J_icle 23 20 := ftl_X4_get_17
theorem ft_X4_get_20 : F_X4_get 20 = J_iconst (-9) 22 := ftl_X4_get_20
theorem ft_X4_get_22 : F_X4_get 22 = J_ireturn 0 0 := ftl_X4_get_22
theorem ft_X4_get_23 : F_X4_get 23 = J_aload 0 24 := ftl_X4_get_23
theorem ft_X4_get_24 : F_X4_get 24 = J_getfield 4 0 27 := ftl_X4_get_24
theorem ft_X4_get_27 : F_X4_get 27 = J_iload 1 28 := ftl_X4_get_27
theorem ft_X4_get_28 : F_X4_get 28 = J_iconst 8 30 := ftl_X4_get_28
theorem ft_X4_get_30 : F_X4_get 30 = J_imul 31 := ftl_X4_get_30
theorem ft_X4_get_31 : F_X4_get 31 = J_iload 2 32 := ftl_X4_get_31
theorem ft_X4_get_32 : F_X4_get 32 = J_iadd 33 := ftl_X4_get_32
theorem ft_X4_get_33 : F_X4_get 33 = J_iconst 1 34 := ftl_X4_get_33
theorem ft_X4_get_34 : F_X4_get 34 = J_isub 35 := ftl_X4_get_34
theorem ft_X4_get_35 : F_X4_get 35 = J_iaload 36 := ftl_X4_get_35
theorem ft_X4_get_36 : F_X4_get 36 = J_ireturn 0 0 := ftl_X4_get_36
theorem tst1 {Q : jQ} {s : Nat} {p w : Int32} {d : Nat} {C : Nat → Nat → Int32} {z : Nat → Int64} {nb : Nat} (hs : jSt s d) {R : jKt} (hX : False) : jrun F_X4_get [] 40 Q R 0 [some (.ref s), some (.int p), some (.int w)] [] (memS d C z) (nb, 0, 0) := by
    simp -implicitDefEqProofs only [jr_0, jr_1, jr_2, j_iconst, j_lconst, j_iload0, j_aload0, j_istore0, j_astore0, j_iinc0, j_iload1, j_aload1, j_istore1, j_astore1, j_iinc1, j_iload2, j_aload2, j_istore2, j_astore2, j_iinc2, j_iload3, j_aload3, j_istore3, j_astore3, j_iinc3, j_iload4, j_aload4, j_istore4, j_astore4, j_iinc4, j_iload5, j_aload5, j_istore5, j_astore5, j_iinc5, j_iload6, j_aload6, j_istore6, j_astore6, j_iinc6, j_iload7, j_aload7, j_istore7, j_astore7, j_iinc7, j_iload8, j_aload8, j_istore8, j_astore8, j_iinc8, j_iadd, j_isub, j_imul, j_iand, j_ior, j_ixor, j_ishl, j_ishr, j_iushr, j_idiv, j_irem, j_ineg, j_ladd, j_lmul, j_land, j_lor, j_lcmp, j_lushr, j_lshl, j_i2l, j_l2i, j_dupI, j_dupR, j_popI, j_dup2, j_ifeq, j_iceq, j_ifne, j_icne, j_iflt, j_iclt, j_ifge, j_icge, j_ifgt, j_icgt, j_ifle, j_icle, j_goto, j_tsw, j_sw0, j_sw1, j_ireturn, j_zreturn, j_lreturn, j_return, j_getfield, j_putI, j_putJ, j_putR, j_iaload, j_baload, j_iastore, j_bastore, j_aaload, j_q, j_aastore, j_acopy, j_mmin, j_mmax, j_mabs, j_objinit, j_new, j_newI, j_newQ, j_sld, j_slen, j_callV0, j_callI0, j_callS0, j_callV1, j_callI1, j_callS1, j_callV2, j_callI2, j_callS2, j_callV3, j_callS3, j_callV4, j_callS4, j_callV5, j_callS5, j_pushS, j_pushN, j_sh0, j_sh1, j_sh2, j_sh3, j_sh4, true_and, Nat.reduceEqDiff, reduceIte, ft_X4_get_0, ft_X4_get_1, ft_X4_get_4, ft_X4_get_5, ft_X4_get_6, ft_X4_get_9, ft_X4_get_10, ft_X4_get_11, ft_X4_get_14, ft_X4_get_15, ft_X4_get_17, ft_X4_get_20, ft_X4_get_22, ft_X4_get_23, ft_X4_get_24, ft_X4_get_27, ft_X4_get_28, ft_X4_get_30, ft_X4_get_31, ft_X4_get_32, ft_X4_get_33, ft_X4_get_34, ft_X4_get_35, ft_X4_get_36, jfld_s0 hs, jald_c hs]
    exact hX.elim
theorem tst2 : jMeets Y_X4_get S_X4_get := by
  intro nb vs mem Q h
  match vs, h with
  | [.ref s, .int p, .int w], h =>
    obtain ⟨d, C, z, rfl, hs, hQ⟩ := h
    refine Ok.of 0 (by decide) (fun ad => by show (lg_sl [jv ad (.ref s), jv ad (.int p), jv ad (.int w)]).length ≤ 3; simp [lg_sl, jv]; sorry) ?_
    sorry
