/-! small questions to a row of the model -/
theorem Li.rf {l : Int32} : Li l l := fun _ _ => rfl
noncomputable def inF (ρ : Nat → Int32) (v : Int32) : Nat → Int32
  | 0 => 0
  | j + 1 => inF ρ v j ||| pick (ρ (4 + j) = v) (1 <<< (nI j &&& 31)) 0
theorem inF_P {P K B : Nat} {ρ : Nat → Int32} {v : Int32} (h : Inv P K B ρ) (hv : ¬ v = 0) : ∀ k, P + k ≤ 4 → inF ρ v (P + k) = inF ρ v P
  | 0, _ => rfl
  | k + 1, hk => by
    have ih := inF_P h hv k (by omega)
    show inF ρ v (P + k) ||| pick (ρ (4 + (P + k)) = v) _ 0 = _
    rw [pick_f, Int32.or_zero, ih]
    intro q
    have := (h.occ (p := P + k) (by omega) (by rw [q]; exact hv)).1
    omega
theorem inF_4 {ρ : Nat → Int32} {v : Int32} : inF ρ v 4 = postsInF ρ v := by
  have s0 : (1 : Int32) <<< (nI 0 &&& 31) = 1 := by decide
  have s1 : (1 : Int32) <<< (nI 1 &&& 31) = 2 := by decide
  have s2 : (1 : Int32) <<< (nI 2 &&& 31) = 4 := by decide
  have s3 : (1 : Int32) <<< (nI 3 &&& 31) = 8 := by decide
  show ((((0 : Int32) ||| pick (ρ 4 = v) (1 <<< (nI 0 &&& 31)) 0) ||| pick (ρ 5 = v) (1 <<< (nI 1 &&& 31)) 0) ||| pick (ρ 6 = v) (1 <<< (nI 2 &&& 31)) 0) ||| pick (ρ 7 = v) (1 <<< (nI 3 &&& 31)) 0 = _
  rw [s0, s1, s2, s3]
  by_cases g0 : ρ 4 = v <;> by_cases g1 : ρ 5 = v <;> by_cases g2 : ρ 6 = v <;> by_cases g3 : ρ 7 = v <;> simp [postsInF, orF, pick, g0, g1, g2, g3]
theorem inF_eq {P K B : Nat} {ρ : Nat → Int32} {v : Int32} (h : Inv P K B ρ) (h4 : P ≤ 4) (hv : ¬ v = 0) : inF ρ v P = postsInF ρ v := by
  rw [← inF_4, ← inF_P h hv (4 - P) (by omega), show P + (4 - P) = 4 by omega]
def S_X7_inState : jSp := fun _ vs mem Q => ∃ C z r P K B, ∃ v : Int32, vs = [.ref 71, .ref r, .int v] ∧ mem = memS 94 C z ∧ jMr r ∧ SR C P K ∧ Inv P K B (C r) ∧ ¬ v = 0 ∧ Q (some (.int (postsInF (C r) v))) (memS 94 C z)
def F_X7_inState_0 : Nat → jT := fun pc => (bif Nat.blt pc 8 then (bif Nat.blt pc 3 then (bif Nat.blt pc 1 then (bif Nat.beq pc 0 then J_iconst 0 1 else jbad) else (bif Nat.blt pc 2 then (bif Nat.beq pc 1 then J_istore 3 2 else jbad) else (bif Nat.beq pc 2 then J_iconst 0 3 else jbad))) else (bif Nat.blt pc 5 then (bif Nat.beq pc 3 then J_istore 4 5 else jbad) else (bif Nat.blt pc 7 then (bif Nat.beq pc 5 then J_iload 4 7 else jbad) else (bif Nat.beq pc 7 then J_aload 0 8 else jbad)))) else (bif Nat.blt pc 15 then (bif Nat.blt pc 11 then (bif Nat.beq pc 8 then J_getfield 7 2 11 else jbad) else (bif Nat.blt pc 14 then (bif Nat.beq pc 11 then J_icge 41 14 else jbad) else (bif Nat.beq pc 14 then J_iload 3 15 else jbad))) else (bif Nat.blt pc 17 then (bif Nat.blt pc 16 then (bif Nat.beq pc 15 then J_aload 1 16 else jbad) else (bif Nat.beq pc 16 then J_iconst 4 17 else jbad)) else (bif Nat.blt pc 19 then (bif Nat.beq pc 17 then J_iload 4 19 else jbad) else (bif Nat.beq pc 19 then J_iadd 20 else jbad)))))
theorem ftl_X7_inState_0 : F_X7_inState_0 0 = J_iconst 0 1 := rfl
theorem ftl_X7_inState_1 : F_X7_inState_0 1 = J_istore 3 2 := rfl
theorem ftl_X7_inState_2 : F_X7_inState_0 2 = J_iconst 0 3 := rfl
theorem ftl_X7_inState_3 : F_X7_inState_0 3 = J_istore 4 5 := rfl
theorem ftl_X7_inState_5 : F_X7_inState_0 5 = J_iload 4 7 := rfl
theorem ftl_X7_inState_7 : F_X7_inState_0 7 = J_aload 0 8 := rfl
theorem ftl_X7_inState_8 : F_X7_inState_0 8 = J_getfield 7 2 11 := rfl
theorem ftl_X7_inState_11 : F_X7_inState_0 11 = J_icge 41 14 := rfl
theorem ftl_X7_inState_14 : F_X7_inState_0 14 = J_iload 3 15 := rfl
theorem ftl_X7_inState_15 : F_X7_inState_0 15 = J_aload 1 16 := rfl
theorem ftl_X7_inState_16 : F_X7_inState_0 16 = J_iconst 4 17 := rfl
theorem ftl_X7_inState_17 : F_X7_inState_0 17 = J_iload 4 19 := rfl
theorem ftl_X7_inState_19 : F_X7_inState_0 19 = J_iadd 20 := rfl
theorem F_X7_inState_0_ok : jOK Y_X7_inState none (F_X7_inState_0) := (jOK_node (jOK_node (jOK_node (jOK_leaf (sn_iconst dX7_inState_0 rfl rfl)) (jOK_node (jOK_leaf (sn_istore_n dX7_inState_1 rfl rfl (by decide))) (jOK_leaf (sn_iconst dX7_inState_2 rfl rfl)))) (jOK_node (jOK_leaf (sn_istore dX7_inState_3 rfl (by decide))) (jOK_node (jOK_leaf (sn_iload dX7_inState_5 rfl)) (jOK_leaf (sn_aload_n dX7_inState_7 rfl rfl))))) (jOK_node (jOK_node (jOK_leaf (sn_getfield dX7_inState_8 rfl rfl (by decide) tw_616 jin7)) (jOK_node (jOK_leaf (sn_icge dX7_inState_11 rfl rfl)) (jOK_leaf (sn_iload_n dX7_inState_14 rfl rfl)))) (jOK_node (jOK_node (jOK_leaf (sn_aload_n dX7_inState_15 rfl rfl)) (jOK_leaf (sn_iconst dX7_inState_16 rfl rfl))) (jOK_node (jOK_leaf (sn_iload dX7_inState_17 rfl)) (jOK_leaf (sn_iadd dX7_inState_19 rfl))))))
def F_X7_inState_20 : Nat → jT := fun pc => (bif Nat.blt pc 32 then (bif Nat.blt pc 25 then (bif Nat.blt pc 21 then (bif Nat.beq pc 20 then J_iaload 21 else jbad) else (bif Nat.blt pc 22 then (bif Nat.beq pc 21 then J_iload 2 22 else jbad) else (bif Nat.beq pc 22 then J_icne 32 25 else jbad))) else (bif Nat.blt pc 28 then (bif Nat.blt pc 26 then (bif Nat.beq pc 25 then J_iconst 1 26 else jbad) else (bif Nat.beq pc 26 then J_iload 4 28 else jbad)) else (bif Nat.blt pc 29 then (bif Nat.beq pc 28 then J_ishl 29 else jbad) else (bif Nat.beq pc 29 then J_goto 33 else jbad)))) else (bif Nat.blt pc 35 then (bif Nat.blt pc 33 then (bif Nat.beq pc 32 then J_iconst 0 33 else jbad) else (bif Nat.blt pc 34 then (bif Nat.beq pc 33 then J_ior 34 else jbad) else (bif Nat.beq pc 34 then J_istore 3 35 else jbad))) else (bif Nat.blt pc 41 then (bif Nat.blt pc 38 then (bif Nat.beq pc 35 then J_iinc 4 1 38 else jbad) else (bif Nat.beq pc 38 then J_goto 5 else jbad)) else (bif Nat.blt pc 42 then (bif Nat.beq pc 41 then J_iload 3 42 else jbad) else (bif Nat.beq pc 42 then J_ireturn 0 0 else jbad)))))
theorem ftl_X7_inState_20 : F_X7_inState_20 20 = J_iaload 21 := rfl
theorem ftl_X7_inState_21 : F_X7_inState_20 21 = J_iload 2 22 := rfl
theorem ftl_X7_inState_22 : F_X7_inState_20 22 = J_icne 32 25 := rfl
theorem ftl_X7_inState_25 : F_X7_inState_20 25 = J_iconst 1 26 := rfl
theorem ftl_X7_inState_26 : F_X7_inState_20 26 = J_iload 4 28 := rfl
theorem ftl_X7_inState_28 : F_X7_inState_20 28 = J_ishl 29 := rfl
theorem ftl_X7_inState_29 : F_X7_inState_20 29 = J_goto 33 := rfl
theorem ftl_X7_inState_32 : F_X7_inState_20 32 = J_iconst 0 33 := rfl
theorem ftl_X7_inState_33 : F_X7_inState_20 33 = J_ior 34 := rfl
theorem ftl_X7_inState_34 : F_X7_inState_20 34 = J_istore 3 35 := rfl
theorem ftl_X7_inState_35 : F_X7_inState_20 35 = J_iinc 4 1 38 := rfl
theorem ftl_X7_inState_38 : F_X7_inState_20 38 = J_goto 5 := rfl
theorem ftl_X7_inState_41 : F_X7_inState_20 41 = J_iload 3 42 := rfl
theorem ftl_X7_inState_42 : F_X7_inState_20 42 = J_ireturn 0 0 := rfl
theorem F_X7_inState_20_ok : jOK Y_X7_inState none (F_X7_inState_20) := (jOK_node (jOK_node (jOK_node (jOK_leaf (sn_iaload dX7_inState_20 rfl)) (jOK_node (jOK_leaf (sn_iload_n dX7_inState_21 rfl rfl)) (jOK_leaf (sn_icne dX7_inState_22 rfl rfl)))) (jOK_node (jOK_node (jOK_leaf (sn_iconst dX7_inState_25 rfl rfl)) (jOK_leaf (sn_iload dX7_inState_26 rfl))) (jOK_node (jOK_leaf (sn_ishl dX7_inState_28 rfl)) (jOK_leaf (sn_goto dX7_inState_29 rfl))))) (jOK_node (jOK_node (jOK_leaf (sn_iconst dX7_inState_32 rfl rfl)) (jOK_node (jOK_leaf (sn_ior dX7_inState_33 rfl)) (jOK_leaf (sn_istore_n dX7_inState_34 rfl rfl (by decide))))) (jOK_node (jOK_node (jOK_leaf (sn_iinc dX7_inState_35 rfl rfl (by decide))) (jOK_leaf (sn_goto dX7_inState_38 rfl))) (jOK_node (jOK_leaf (sn_iload_n dX7_inState_41 rfl rfl)) (jOK_leaf (sn_ireturn dX7_inState_42 rfl rfl))))))
def F_X7_inState_0_42 : Nat → jT := fun pc => bif Nat.blt pc 20 then F_X7_inState_0 pc else F_X7_inState_20 pc
theorem F_X7_inState_0_42_l {pc : Nat} (h : Nat.blt pc 20 = true) : F_X7_inState_0_42 pc = F_X7_inState_0 pc := by unfold F_X7_inState_0_42; rw [h]; rfl
theorem F_X7_inState_0_42_r {pc : Nat} (h : Nat.blt pc 20 = false) : F_X7_inState_0_42 pc = F_X7_inState_20 pc := by unfold F_X7_inState_0_42; rw [h]; rfl
theorem F_X7_inState_0_42_ok : jOK Y_X7_inState none (F_X7_inState_0_42) := jOK_node (F_X7_inState_0_ok) (F_X7_inState_20_ok)
def F_X7_inState : Nat → jT := F_X7_inState_0_42
theorem OK_X7_inState : jOK Y_X7_inState none (F_X7_inState) := F_X7_inState_0_42_ok
theorem ft_X7_inState_0 : F_X7_inState 0 = J_iconst 0 1 := (F_X7_inState_0_42_l rfl).trans (ftl_X7_inState_0)
theorem ft_X7_inState_1 : F_X7_inState 1 = J_istore 3 2 := (F_X7_inState_0_42_l rfl).trans (ftl_X7_inState_1)
theorem ft_X7_inState_2 : F_X7_inState 2 = J_iconst 0 3 := (F_X7_inState_0_42_l rfl).trans (ftl_X7_inState_2)
theorem ft_X7_inState_3 : F_X7_inState 3 = J_istore 4 5 := (F_X7_inState_0_42_l rfl).trans (ftl_X7_inState_3)
theorem ft_X7_inState_5 : F_X7_inState 5 = J_iload 4 7 := (F_X7_inState_0_42_l rfl).trans (ftl_X7_inState_5)
theorem ft_X7_inState_7 : F_X7_inState 7 = J_aload 0 8 := (F_X7_inState_0_42_l rfl).trans (ftl_X7_inState_7)
theorem ft_X7_inState_8 : F_X7_inState 8 = J_getfield 7 2 11 := (F_X7_inState_0_42_l rfl).trans (ftl_X7_inState_8)
theorem ft_X7_inState_11 : F_X7_inState 11 = J_icge 41 14 := (F_X7_inState_0_42_l rfl).trans (ftl_X7_inState_11)
theorem ft_X7_inState_14 : F_X7_inState 14 = J_iload 3 15 := (F_X7_inState_0_42_l rfl).trans (ftl_X7_inState_14)
theorem ft_X7_inState_15 : F_X7_inState 15 = J_aload 1 16 := (F_X7_inState_0_42_l rfl).trans (ftl_X7_inState_15)
theorem ft_X7_inState_16 : F_X7_inState 16 = J_iconst 4 17 := (F_X7_inState_0_42_l rfl).trans (ftl_X7_inState_16)
theorem ft_X7_inState_17 : F_X7_inState 17 = J_iload 4 19 := (F_X7_inState_0_42_l rfl).trans (ftl_X7_inState_17)
theorem ft_X7_inState_19 : F_X7_inState 19 = J_iadd 20 := (F_X7_inState_0_42_l rfl).trans (ftl_X7_inState_19)
theorem ft_X7_inState_20 : F_X7_inState 20 = J_iaload 21 := (F_X7_inState_0_42_r rfl).trans (ftl_X7_inState_20)
theorem ft_X7_inState_21 : F_X7_inState 21 = J_iload 2 22 := (F_X7_inState_0_42_r rfl).trans (ftl_X7_inState_21)
theorem ft_X7_inState_22 : F_X7_inState 22 = J_icne 32 25 := (F_X7_inState_0_42_r rfl).trans (ftl_X7_inState_22)
theorem ft_X7_inState_25 : F_X7_inState 25 = J_iconst 1 26 := (F_X7_inState_0_42_r rfl).trans (ftl_X7_inState_25)
theorem ft_X7_inState_26 : F_X7_inState 26 = J_iload 4 28 := (F_X7_inState_0_42_r rfl).trans (ftl_X7_inState_26)
theorem ft_X7_inState_28 : F_X7_inState 28 = J_ishl 29 := (F_X7_inState_0_42_r rfl).trans (ftl_X7_inState_28)
theorem ft_X7_inState_29 : F_X7_inState 29 = J_goto 33 := (F_X7_inState_0_42_r rfl).trans (ftl_X7_inState_29)
theorem ft_X7_inState_32 : F_X7_inState 32 = J_iconst 0 33 := (F_X7_inState_0_42_r rfl).trans (ftl_X7_inState_32)
theorem ft_X7_inState_33 : F_X7_inState 33 = J_ior 34 := (F_X7_inState_0_42_r rfl).trans (ftl_X7_inState_33)
theorem ft_X7_inState_34 : F_X7_inState 34 = J_istore 3 35 := (F_X7_inState_0_42_r rfl).trans (ftl_X7_inState_34)
theorem ft_X7_inState_35 : F_X7_inState 35 = J_iinc 4 1 38 := (F_X7_inState_0_42_r rfl).trans (ftl_X7_inState_35)
theorem ft_X7_inState_38 : F_X7_inState 38 = J_goto 5 := (F_X7_inState_0_42_r rfl).trans (ftl_X7_inState_38)
theorem ft_X7_inState_41 : F_X7_inState 41 = J_iload 3 42 := (F_X7_inState_0_42_r rfl).trans (ftl_X7_inState_41)
theorem ft_X7_inState_42 : F_X7_inState 42 = J_ireturn 0 0 := (F_X7_inState_0_42_r rfl).trans (ftl_X7_inState_42)
theorem lp_X7_inState {Q : jQ} {C : Nat → Nat → Int32} {z : Nat → Int64} {nb r P K : Nat} {v : Int32} (hr : jMr r) (s : SR C P K) (h : Q (some (.int (inF (C r) v P))) (memS 94 C z)) :
    ∀ k j, j + k = P → Rn Y_X7_inState none Q 5 [some (.ref 71), some (.ref r), some (.int v), some (.int (inF (C r) v j)), some (.int (nI j))] [] (memS 94 C z) (nb, 0, 0) := by
  have h4 := s.h4
  intro k
  induction k with
  | zero =>
    intro j hj
    have hc : (nI P ≤ nI j) = True := eq_true (nI_le (by omega) (by omega))
    refine jrun_first OK_X7_inState (C := [5]) 60 ?_
    simp -implicitDefEqProofs only [jr_0, jr_1, jr_2, j_iconst, j_lconst, j_iload0, j_aload0, j_istore0, j_astore0, j_iinc0, j_iload1, j_aload1, j_istore1, j_astore1, j_iinc1, j_iload2, j_aload2, j_istore2, j_astore2, j_iinc2, j_iload3, j_aload3, j_istore3, j_astore3, j_iinc3, j_iload4, j_aload4, j_istore4, j_astore4, j_iinc4, j_iload5, j_aload5, j_istore5, j_astore5, j_iinc5, j_iload6, j_aload6, j_istore6, j_astore6, j_iinc6, j_iload7, j_aload7, j_istore7, j_astore7, j_iinc7, j_iload8, j_aload8, j_istore8, j_astore8, j_iinc8, j_iadd, j_isub, j_imul, j_iand, j_ior, j_ixor, j_ishl, j_ishr, j_iushr, j_idiv, j_irem, j_ineg, j_ladd, j_lmul, j_land, j_lor, j_lcmp, j_lushr, j_lshl, j_i2l, j_l2i, j_dupI, j_dupR, j_popI, j_dup2, j_ifeq, j_iceq, j_ifne, j_icne, j_iflt, j_iclt, j_ifge, j_icge, j_ifgt, j_icgt, j_ifle, j_icle, j_goto, j_tsw, j_sw0, j_sw1, j_ireturn, j_zreturn, j_lreturn, j_return, j_getfield, j_putI, j_putJ, j_putR, j_iaload, j_baload, j_iastore, j_bastore, j_aaload, j_q, j_aastore, j_acopy, j_mmin, j_mmax, j_mabs, j_objinit, j_new, j_newI, j_newQ, j_sld, j_slen, j_callV0, j_callI0, j_callS0, j_callV1, j_callI1, j_callS1, j_callV2, j_callI2, j_callS2, j_callV3, j_callS3, j_callV4, j_callS4, j_callV5, j_callS5, j_pushS, j_pushN, j_sh0, j_sh1, j_sh2, j_sh3, j_sh4, Int32.reduceAdd, Int32.reduceMul, Int32.reduceSub, Int32.reduceLT, Int32.reduceLE, eq_self, i32_10, i32_01, ne_eq, hrow_s, hrow_n, ne10, ne100, ne1000, ne7, ne4, ne14, ne9973, or_true, true_or, or_false, false_or, not_true_eq_false, not_false_eq_true, false_implies, implies_true, and_true, forall_const, true_implies, jargs_n, jargs_r, jargs_i, List.cons_append, List.nil_append, true_and, Nat.reduceEqDiff, reduceIte, ft_X7_inState_0, ft_X7_inState_1, ft_X7_inState_2, ft_X7_inState_3, ft_X7_inState_5, ft_X7_inState_7, ft_X7_inState_8, ft_X7_inState_11, ft_X7_inState_14, ft_X7_inState_15, ft_X7_inState_16, ft_X7_inState_17, ft_X7_inState_19, ft_X7_inState_20, ft_X7_inState_21, ft_X7_inState_22, ft_X7_inState_25, ft_X7_inState_26, ft_X7_inState_28, ft_X7_inState_29, ft_X7_inState_32, ft_X7_inState_33, ft_X7_inState_34, ft_X7_inState_35, ft_X7_inState_38, ft_X7_inState_41, ft_X7_inState_42, fl_71_2, s.mP, hc]
    rw [show j = P by omega]
    exact h
  | succ k ih =>
    intro j hj
    have hc : (nI P ≤ nI j) = False := eq_false (nI_ge (by omega) (by omega))
    have hk := ih (j + 1) (by omega)
    unfold inF at hk
    refine jrun_first OK_X7_inState (C := [5]) 60 ?_
    simp -implicitDefEqProofs only [jr_0, jr_1, jr_2, j_iconst, j_lconst, j_iload0, j_aload0, j_istore0, j_astore0, j_iinc0, j_iload1, j_aload1, j_istore1, j_astore1, j_iinc1, j_iload2, j_aload2, j_istore2, j_astore2, j_iinc2, j_iload3, j_aload3, j_istore3, j_astore3, j_iinc3, j_iload4, j_aload4, j_istore4, j_astore4, j_iinc4, j_iload5, j_aload5, j_istore5, j_astore5, j_iinc5, j_iload6, j_aload6, j_istore6, j_astore6, j_iinc6, j_iload7, j_aload7, j_istore7, j_astore7, j_iinc7, j_iload8, j_aload8, j_istore8, j_astore8, j_iinc8, j_iadd, j_isub, j_imul, j_iand, j_ior, j_ixor, j_ishl, j_ishr, j_iushr, j_idiv, j_irem, j_ineg, j_ladd, j_lmul, j_land, j_lor, j_lcmp, j_lushr, j_lshl, j_i2l, j_l2i, j_dupI, j_dupR, j_popI, j_dup2, j_ifeq, j_iceq, j_ifne, j_icne, j_iflt, j_iclt, j_ifge, j_icge, j_ifgt, j_icgt, j_ifle, j_icle, j_goto, j_tsw, j_sw0, j_sw1, j_ireturn, j_zreturn, j_lreturn, j_return, j_getfield, j_putI, j_putJ, j_putR, j_iaload, j_baload, j_iastore, j_bastore, j_aaload, j_q, j_aastore, j_acopy, j_mmin, j_mmax, j_mabs, j_objinit, j_new, j_newI, j_newQ, j_sld, j_slen, j_callV0, j_callI0, j_callS0, j_callV1, j_callI1, j_callS1, j_callV2, j_callI2, j_callS2, j_callV3, j_callS3, j_callV4, j_callS4, j_callV5, j_callS5, j_pushS, j_pushN, j_sh0, j_sh1, j_sh2, j_sh3, j_sh4, Int32.reduceAdd, Int32.reduceMul, Int32.reduceSub, Int32.reduceLT, Int32.reduceLE, eq_self, i32_10, i32_01, ne_eq, hrow_s, hrow_n, ne10, ne100, ne1000, ne7, ne4, ne14, ne9973, or_true, true_or, or_false, false_or, not_true_eq_false, not_false_eq_true, false_implies, implies_true, and_true, forall_const, true_implies, jargs_n, jargs_r, jargs_i, List.cons_append, List.nil_append, true_and, Nat.reduceEqDiff, reduceIte, ft_X7_inState_0, ft_X7_inState_1, ft_X7_inState_2, ft_X7_inState_3, ft_X7_inState_5, ft_X7_inState_7, ft_X7_inState_8, ft_X7_inState_11, ft_X7_inState_14, ft_X7_inState_15, ft_X7_inState_16, ft_X7_inState_17, ft_X7_inState_19, ft_X7_inState_20, ft_X7_inState_21, ft_X7_inState_22, ft_X7_inState_25, ft_X7_inState_26, ft_X7_inState_28, ft_X7_inState_29, ft_X7_inState_32, ft_X7_inState_33, ft_X7_inState_34, ft_X7_inState_35, ft_X7_inState_38, ft_X7_inState_41, ft_X7_inState_42, fl_71_2, s.mP, hc, ar_4 hr (show j < 4 by omega), nI_1]
    by_cases g : C r (4 + j) = v
    · rw [pick_t g] at hk
      simp only [g, not_true_eq_false, not_false_eq_true, true_implies, false_implies, implies_true, and_true, true_and, forall_const]
      exact hk
    · rw [pick_f g] at hk
      simp only [g, not_true_eq_false, not_false_eq_true, true_implies, false_implies, implies_true, and_true, true_and, forall_const]
      exact hk
theorem ok_X7_inState : jMeets Y_X7_inState S_X7_inState := by
  intro nb vs mem Q h
  obtain ⟨C, z, r, P, K, B, v, rfl, rfl, hr, s, iv, hv, hQ⟩ := h
  refine Ok.run OK_X7_inState [5] 40 [none, none] pn7 (Nat.le_of_ble_eq_true rfl) rfl ?_
  simp -implicitDefEqProofs only [jr_0, jr_1, jr_2, j_iconst, j_lconst, j_iload0, j_aload0, j_istore0, j_astore0, j_iinc0, j_iload1, j_aload1, j_istore1, j_astore1, j_iinc1, j_iload2, j_aload2, j_istore2, j_astore2, j_iinc2, j_iload3, j_aload3, j_istore3, j_astore3, j_iinc3, j_iload4, j_aload4, j_istore4, j_astore4, j_iinc4, j_iload5, j_aload5, j_istore5, j_astore5, j_iinc5, j_iload6, j_aload6, j_istore6, j_astore6, j_iinc6, j_iload7, j_aload7, j_istore7, j_astore7, j_iinc7, j_iload8, j_aload8, j_istore8, j_astore8, j_iinc8, j_iadd, j_isub, j_imul, j_iand, j_ior, j_ixor, j_ishl, j_ishr, j_iushr, j_idiv, j_irem, j_ineg, j_ladd, j_lmul, j_land, j_lor, j_lcmp, j_lushr, j_lshl, j_i2l, j_l2i, j_dupI, j_dupR, j_popI, j_dup2, j_ifeq, j_iceq, j_ifne, j_icne, j_iflt, j_iclt, j_ifge, j_icge, j_ifgt, j_icgt, j_ifle, j_icle, j_goto, j_tsw, j_sw0, j_sw1, j_ireturn, j_zreturn, j_lreturn, j_return, j_getfield, j_putI, j_putJ, j_putR, j_iaload, j_baload, j_iastore, j_bastore, j_aaload, j_q, j_aastore, j_acopy, j_mmin, j_mmax, j_mabs, j_objinit, j_new, j_newI, j_newQ, j_sld, j_slen, j_callV0, j_callI0, j_callS0, j_callV1, j_callI1, j_callS1, j_callV2, j_callI2, j_callS2, j_callV3, j_callS3, j_callV4, j_callS4, j_callV5, j_callS5, j_pushS, j_pushN, j_sh0, j_sh1, j_sh2, j_sh3, j_sh4, Int32.reduceAdd, Int32.reduceMul, Int32.reduceSub, Int32.reduceLT, Int32.reduceLE, eq_self, i32_10, i32_01, ne_eq, hrow_s, hrow_n, ne10, ne100, ne1000, ne7, ne4, ne14, ne9973, or_true, true_or, or_false, false_or, not_true_eq_false, not_false_eq_true, false_implies, implies_true, and_true, forall_const, true_implies, jargs_n, jargs_r, jargs_i, List.cons_append, List.nil_append, true_and, Nat.reduceEqDiff, reduceIte, ft_X7_inState_0, ft_X7_inState_1, ft_X7_inState_2, ft_X7_inState_3, ft_X7_inState_5, ft_X7_inState_7, ft_X7_inState_8, ft_X7_inState_11, ft_X7_inState_14, ft_X7_inState_15, ft_X7_inState_16, ft_X7_inState_17, ft_X7_inState_19, ft_X7_inState_20, ft_X7_inState_21, ft_X7_inState_22, ft_X7_inState_25, ft_X7_inState_26, ft_X7_inState_28, ft_X7_inState_29, ft_X7_inState_32, ft_X7_inState_33, ft_X7_inState_34, ft_X7_inState_35, ft_X7_inState_38, ft_X7_inState_41, ft_X7_inState_42]
  exact lp_X7_inState hr s (by rw [inF_eq iv s.h4 hv]; exact hQ) P 0 (by omega)
theorem s_X7_inState {nb r P K B : Nat} {C : Nat → Nat → Int32} {z : Nat → Int64} {v : Int32} {Q : jQ} (hr : jMr r) (s : SR C P K) (iv : Inv P K B (C r)) (hv : ¬ v = 0) (hQ : Q (some (.int (postsInF (C r) v))) (memS 94 C z)) : S_X7_inState nb [.ref 71, .ref r, .int v] (memS 94 C z) Q := ⟨C, z, r, P, K, B, v, rfl, rfl, hr, s, iv, hv, hQ⟩
/-! sums -/
def suF (ρ : Nat → Int32) (b : Nat) : Nat → Int32
  | 0 => 0
  | j + 1 => suF ρ b j + ρ (b + j)
theorem suF_P {ρ : Nat → Int32} {b P m : Nat} (h : ∀ j, P ≤ j → j < m → ρ (b + j) = 0) : ∀ k, P + k ≤ m → suF ρ b (P + k) = suF ρ b P
  | 0, _ => rfl
  | k + 1, hk => by
    have ih := suF_P h k (by omega)
    show suF ρ b (P + k) + ρ (b + (P + k)) = _
    rw [h (P + k) (by omega) (by omega), ih, Int32.add_zero]
theorem suF_m {P K B : Nat} {ρ : Nat → Int32} (h : Inv P K B ρ) (h4 : P ≤ 4) : suF ρ 24 P = metersF ρ := by
  have := suF_P (ρ := ρ) (b := 24) (P := P) (m := 4) (fun j h1 h2 => by
    obtain ⟨m, -, e, g⟩ := h.met h2
    rw [e, g h1]
    rfl) (4 - P) (by omega)
  rw [← this, show P + (4 - P) = 4 by omega]
  rfl
theorem suF_r {P K B : Nat} {ρ : Nat → Int32} (h : Inv P K B ρ) (h6 : K ≤ 6) : suF ρ 32 K = restsF ρ := by
  have := suF_P (ρ := ρ) (b := 32) (P := K) (m := 6) (fun j h1 h2 => by
    obtain ⟨m, -, e, g⟩ := h.rest h2
    rw [e, g h1]
    rfl) (6 - K) (by omega)
  rw [← this, show K + (6 - K) = 6 by omega]
  rfl
def S_X7_meters : jSp := fun _ vs mem Q => ∃ C z r P K B, vs = [.ref 71, .ref r] ∧ mem = memS 94 C z ∧ jMr r ∧ SR C P K ∧ Inv P K B (C r) ∧ Q (some (.int (metersF (C r)))) (memS 94 C z)
def F_X7_meters_0 : Nat → jT := fun pc => (bif Nat.blt pc 5 then (bif Nat.blt pc 2 then (bif Nat.blt pc 1 then (bif Nat.beq pc 0 then J_iconst 0 1 else jbad) else (bif Nat.beq pc 1 then J_istore 2 2 else jbad)) else (bif Nat.blt pc 3 then (bif Nat.beq pc 2 then J_iconst 0 3 else jbad) else (bif Nat.blt pc 4 then (bif Nat.beq pc 3 then J_istore 3 4 else jbad) else (bif Nat.beq pc 4 then J_iload 3 5 else jbad)))) else (bif Nat.blt pc 9 then (bif Nat.blt pc 6 then (bif Nat.beq pc 5 then J_aload 0 6 else jbad) else (bif Nat.beq pc 6 then J_getfield 7 2 9 else jbad)) else (bif Nat.blt pc 12 then (bif Nat.beq pc 9 then J_icge 27 12 else jbad) else (bif Nat.blt pc 13 then (bif Nat.beq pc 12 then J_iload 2 13 else jbad) else (bif Nat.beq pc 13 then J_aload 1 14 else jbad)))))
theorem ftl_X7_meters_0 : F_X7_meters_0 0 = J_iconst 0 1 := rfl
theorem ftl_X7_meters_1 : F_X7_meters_0 1 = J_istore 2 2 := rfl
theorem ftl_X7_meters_2 : F_X7_meters_0 2 = J_iconst 0 3 := rfl
theorem ftl_X7_meters_3 : F_X7_meters_0 3 = J_istore 3 4 := rfl
theorem ftl_X7_meters_4 : F_X7_meters_0 4 = J_iload 3 5 := rfl
theorem ftl_X7_meters_5 : F_X7_meters_0 5 = J_aload 0 6 := rfl
theorem ftl_X7_meters_6 : F_X7_meters_0 6 = J_getfield 7 2 9 := rfl
theorem ftl_X7_meters_9 : F_X7_meters_0 9 = J_icge 27 12 := rfl
theorem ftl_X7_meters_12 : F_X7_meters_0 12 = J_iload 2 13 := rfl
theorem ftl_X7_meters_13 : F_X7_meters_0 13 = J_aload 1 14 := rfl
theorem F_X7_meters_0_ok : jOK Y_X7_meters none (F_X7_meters_0) := (jOK_node (jOK_node (jOK_node (jOK_leaf (sn_iconst dX7_meters_0 rfl rfl)) (jOK_leaf (sn_istore_n dX7_meters_1 rfl rfl (by decide)))) (jOK_node (jOK_leaf (sn_iconst dX7_meters_2 rfl rfl)) (jOK_node (jOK_leaf (sn_istore_n dX7_meters_3 rfl rfl (by decide))) (jOK_leaf (sn_iload_n dX7_meters_4 rfl rfl))))) (jOK_node (jOK_node (jOK_leaf (sn_aload_n dX7_meters_5 rfl rfl)) (jOK_leaf (sn_getfield dX7_meters_6 rfl rfl (by decide) tw_616 jin7))) (jOK_node (jOK_leaf (sn_icge dX7_meters_9 rfl rfl)) (jOK_node (jOK_leaf (sn_iload_n dX7_meters_12 rfl rfl)) (jOK_leaf (sn_aload_n dX7_meters_13 rfl rfl))))))
def F_X7_meters_14 : Nat → jT := fun pc => (bif Nat.blt pc 20 then (bif Nat.blt pc 17 then (bif Nat.blt pc 16 then (bif Nat.beq pc 14 then J_iconst 24 16 else jbad) else (bif Nat.beq pc 16 then J_iload 3 17 else jbad)) else (bif Nat.blt pc 18 then (bif Nat.beq pc 17 then J_iadd 18 else jbad) else (bif Nat.blt pc 19 then (bif Nat.beq pc 18 then J_iaload 19 else jbad) else (bif Nat.beq pc 19 then J_iadd 20 else jbad)))) else (bif Nat.blt pc 24 then (bif Nat.blt pc 21 then (bif Nat.beq pc 20 then J_istore 2 21 else jbad) else (bif Nat.beq pc 21 then J_iinc 3 1 24 else jbad)) else (bif Nat.blt pc 27 then (bif Nat.beq pc 24 then J_goto 4 else jbad) else (bif Nat.blt pc 28 then (bif Nat.beq pc 27 then J_iload 2 28 else jbad) else (bif Nat.beq pc 28 then J_ireturn 0 0 else jbad)))))
theorem ftl_X7_meters_14 : F_X7_meters_14 14 = J_iconst 24 16 := rfl
theorem ftl_X7_meters_16 : F_X7_meters_14 16 = J_iload 3 17 := rfl
theorem ftl_X7_meters_17 : F_X7_meters_14 17 = J_iadd 18 := rfl
theorem ftl_X7_meters_18 : F_X7_meters_14 18 = J_iaload 19 := rfl
theorem ftl_X7_meters_19 : F_X7_meters_14 19 = J_iadd 20 := rfl
theorem ftl_X7_meters_20 : F_X7_meters_14 20 = J_istore 2 21 := rfl
theorem ftl_X7_meters_21 : F_X7_meters_14 21 = J_iinc 3 1 24 := rfl
theorem ftl_X7_meters_24 : F_X7_meters_14 24 = J_goto 4 := rfl
theorem ftl_X7_meters_27 : F_X7_meters_14 27 = J_iload 2 28 := rfl
theorem ftl_X7_meters_28 : F_X7_meters_14 28 = J_ireturn 0 0 := rfl
theorem F_X7_meters_14_ok : jOK Y_X7_meters none (F_X7_meters_14) := (jOK_node (jOK_node (jOK_node (jOK_leaf (sn_bipush dX7_meters_14 rfl rfl)) (jOK_leaf (sn_iload_n dX7_meters_16 rfl rfl))) (jOK_node (jOK_leaf (sn_iadd dX7_meters_17 rfl)) (jOK_node (jOK_leaf (sn_iaload dX7_meters_18 rfl)) (jOK_leaf (sn_iadd dX7_meters_19 rfl))))) (jOK_node (jOK_node (jOK_leaf (sn_istore_n dX7_meters_20 rfl rfl (by decide))) (jOK_leaf (sn_iinc dX7_meters_21 rfl rfl (by decide)))) (jOK_node (jOK_leaf (sn_goto dX7_meters_24 rfl)) (jOK_node (jOK_leaf (sn_iload_n dX7_meters_27 rfl rfl)) (jOK_leaf (sn_ireturn dX7_meters_28 rfl rfl))))))
def F_X7_meters_0_28 : Nat → jT := fun pc => bif Nat.blt pc 14 then F_X7_meters_0 pc else F_X7_meters_14 pc
theorem F_X7_meters_0_28_l {pc : Nat} (h : Nat.blt pc 14 = true) : F_X7_meters_0_28 pc = F_X7_meters_0 pc := by unfold F_X7_meters_0_28; rw [h]; rfl
theorem F_X7_meters_0_28_r {pc : Nat} (h : Nat.blt pc 14 = false) : F_X7_meters_0_28 pc = F_X7_meters_14 pc := by unfold F_X7_meters_0_28; rw [h]; rfl
theorem F_X7_meters_0_28_ok : jOK Y_X7_meters none (F_X7_meters_0_28) := jOK_node (F_X7_meters_0_ok) (F_X7_meters_14_ok)
def F_X7_meters : Nat → jT := F_X7_meters_0_28
theorem OK_X7_meters : jOK Y_X7_meters none (F_X7_meters) := F_X7_meters_0_28_ok
theorem ft_X7_meters_0 : F_X7_meters 0 = J_iconst 0 1 := (F_X7_meters_0_28_l rfl).trans (ftl_X7_meters_0)
theorem ft_X7_meters_1 : F_X7_meters 1 = J_istore 2 2 := (F_X7_meters_0_28_l rfl).trans (ftl_X7_meters_1)
theorem ft_X7_meters_2 : F_X7_meters 2 = J_iconst 0 3 := (F_X7_meters_0_28_l rfl).trans (ftl_X7_meters_2)
theorem ft_X7_meters_3 : F_X7_meters 3 = J_istore 3 4 := (F_X7_meters_0_28_l rfl).trans (ftl_X7_meters_3)
theorem ft_X7_meters_4 : F_X7_meters 4 = J_iload 3 5 := (F_X7_meters_0_28_l rfl).trans (ftl_X7_meters_4)
theorem ft_X7_meters_5 : F_X7_meters 5 = J_aload 0 6 := (F_X7_meters_0_28_l rfl).trans (ftl_X7_meters_5)
theorem ft_X7_meters_6 : F_X7_meters 6 = J_getfield 7 2 9 := (F_X7_meters_0_28_l rfl).trans (ftl_X7_meters_6)
theorem ft_X7_meters_9 : F_X7_meters 9 = J_icge 27 12 := (F_X7_meters_0_28_l rfl).trans (ftl_X7_meters_9)
theorem ft_X7_meters_12 : F_X7_meters 12 = J_iload 2 13 := (F_X7_meters_0_28_l rfl).trans (ftl_X7_meters_12)
theorem ft_X7_meters_13 : F_X7_meters 13 = J_aload 1 14 := (F_X7_meters_0_28_l rfl).trans (ftl_X7_meters_13)
theorem ft_X7_meters_14 : F_X7_meters 14 = J_iconst 24 16 := (F_X7_meters_0_28_r rfl).trans (ftl_X7_meters_14)
theorem ft_X7_meters_16 : F_X7_meters 16 = J_iload 3 17 := (F_X7_meters_0_28_r rfl).trans (ftl_X7_meters_16)
theorem ft_X7_meters_17 : F_X7_meters 17 = J_iadd 18 := (F_X7_meters_0_28_r rfl).trans (ftl_X7_meters_17)
theorem ft_X7_meters_18 : F_X7_meters 18 = J_iaload 19 := (F_X7_meters_0_28_r rfl).trans (ftl_X7_meters_18)
theorem ft_X7_meters_19 : F_X7_meters 19 = J_iadd 20 := (F_X7_meters_0_28_r rfl).trans (ftl_X7_meters_19)
theorem ft_X7_meters_20 : F_X7_meters 20 = J_istore 2 21 := (F_X7_meters_0_28_r rfl).trans (ftl_X7_meters_20)
theorem ft_X7_meters_21 : F_X7_meters 21 = J_iinc 3 1 24 := (F_X7_meters_0_28_r rfl).trans (ftl_X7_meters_21)
theorem ft_X7_meters_24 : F_X7_meters 24 = J_goto 4 := (F_X7_meters_0_28_r rfl).trans (ftl_X7_meters_24)
theorem ft_X7_meters_27 : F_X7_meters 27 = J_iload 2 28 := (F_X7_meters_0_28_r rfl).trans (ftl_X7_meters_27)
theorem ft_X7_meters_28 : F_X7_meters 28 = J_ireturn 0 0 := (F_X7_meters_0_28_r rfl).trans (ftl_X7_meters_28)
theorem lp_X7_meters {Q : jQ} {C : Nat → Nat → Int32} {z : Nat → Int64} {nb r P K : Nat} (hr : jMr r) (s : SR C P K) (h : Q (some (.int (suF (C r) 24 P))) (memS 94 C z)) :
    ∀ k j, j + k = P → Rn Y_X7_meters none Q 4 [some (.ref 71), some (.ref r), some (.int (suF (C r) 24 j)), some (.int (nI j))] [] (memS 94 C z) (nb, 0, 0) := by
  have h4 := s.h4
  intro k
  induction k with
  | zero =>
    intro j hj
    have hc : (nI P ≤ nI j) = True := eq_true (nI_le (by omega) (by omega))
    refine jrun_first OK_X7_meters (C := [4]) 60 ?_
    simp -implicitDefEqProofs only [jr_0, jr_1, jr_2, j_iconst, j_lconst, j_iload0, j_aload0, j_istore0, j_astore0, j_iinc0, j_iload1, j_aload1, j_istore1, j_astore1, j_iinc1, j_iload2, j_aload2, j_istore2, j_astore2, j_iinc2, j_iload3, j_aload3, j_istore3, j_astore3, j_iinc3, j_iload4, j_aload4, j_istore4, j_astore4, j_iinc4, j_iload5, j_aload5, j_istore5, j_astore5, j_iinc5, j_iload6, j_aload6, j_istore6, j_astore6, j_iinc6, j_iload7, j_aload7, j_istore7, j_astore7, j_iinc7, j_iload8, j_aload8, j_istore8, j_astore8, j_iinc8, j_iadd, j_isub, j_imul, j_iand, j_ior, j_ixor, j_ishl, j_ishr, j_iushr, j_idiv, j_irem, j_ineg, j_ladd, j_lmul, j_land, j_lor, j_lcmp, j_lushr, j_lshl, j_i2l, j_l2i, j_dupI, j_dupR, j_popI, j_dup2, j_ifeq, j_iceq, j_ifne, j_icne, j_iflt, j_iclt, j_ifge, j_icge, j_ifgt, j_icgt, j_ifle, j_icle, j_goto, j_tsw, j_sw0, j_sw1, j_ireturn, j_zreturn, j_lreturn, j_return, j_getfield, j_putI, j_putJ, j_putR, j_iaload, j_baload, j_iastore, j_bastore, j_aaload, j_q, j_aastore, j_acopy, j_mmin, j_mmax, j_mabs, j_objinit, j_new, j_newI, j_newQ, j_sld, j_slen, j_callV0, j_callI0, j_callS0, j_callV1, j_callI1, j_callS1, j_callV2, j_callI2, j_callS2, j_callV3, j_callS3, j_callV4, j_callS4, j_callV5, j_callS5, j_pushS, j_pushN, j_sh0, j_sh1, j_sh2, j_sh3, j_sh4, Int32.reduceAdd, Int32.reduceMul, Int32.reduceSub, Int32.reduceLT, Int32.reduceLE, eq_self, i32_10, i32_01, ne_eq, hrow_s, hrow_n, ne10, ne100, ne1000, ne7, ne4, ne14, ne9973, or_true, true_or, or_false, false_or, not_true_eq_false, not_false_eq_true, false_implies, implies_true, and_true, forall_const, true_implies, jargs_n, jargs_r, jargs_i, List.cons_append, List.nil_append, true_and, Nat.reduceEqDiff, reduceIte, ft_X7_meters_0, ft_X7_meters_1, ft_X7_meters_2, ft_X7_meters_3, ft_X7_meters_4, ft_X7_meters_5, ft_X7_meters_6, ft_X7_meters_9, ft_X7_meters_12, ft_X7_meters_13, ft_X7_meters_14, ft_X7_meters_16, ft_X7_meters_17, ft_X7_meters_18, ft_X7_meters_19, ft_X7_meters_20, ft_X7_meters_21, ft_X7_meters_24, ft_X7_meters_27, ft_X7_meters_28, fl_71_2, s.mP, hc]
    rw [show j = P by omega]
    exact h
  | succ k ih =>
    intro j hj
    have hc : (nI P ≤ nI j) = False := eq_false (nI_ge (by omega) (by omega))
    have hk := ih (j + 1) (by omega)
    refine jrun_first OK_X7_meters (C := [4]) 60 ?_
    simp -implicitDefEqProofs only [jr_0, jr_1, jr_2, j_iconst, j_lconst, j_iload0, j_aload0, j_istore0, j_astore0, j_iinc0, j_iload1, j_aload1, j_istore1, j_astore1, j_iinc1, j_iload2, j_aload2, j_istore2, j_astore2, j_iinc2, j_iload3, j_aload3, j_istore3, j_astore3, j_iinc3, j_iload4, j_aload4, j_istore4, j_astore4, j_iinc4, j_iload5, j_aload5, j_istore5, j_astore5, j_iinc5, j_iload6, j_aload6, j_istore6, j_astore6, j_iinc6, j_iload7, j_aload7, j_istore7, j_astore7, j_iinc7, j_iload8, j_aload8, j_istore8, j_astore8, j_iinc8, j_iadd, j_isub, j_imul, j_iand, j_ior, j_ixor, j_ishl, j_ishr, j_iushr, j_idiv, j_irem, j_ineg, j_ladd, j_lmul, j_land, j_lor, j_lcmp, j_lushr, j_lshl, j_i2l, j_l2i, j_dupI, j_dupR, j_popI, j_dup2, j_ifeq, j_iceq, j_ifne, j_icne, j_iflt, j_iclt, j_ifge, j_icge, j_ifgt, j_icgt, j_ifle, j_icle, j_goto, j_tsw, j_sw0, j_sw1, j_ireturn, j_zreturn, j_lreturn, j_return, j_getfield, j_putI, j_putJ, j_putR, j_iaload, j_baload, j_iastore, j_bastore, j_aaload, j_q, j_aastore, j_acopy, j_mmin, j_mmax, j_mabs, j_objinit, j_new, j_newI, j_newQ, j_sld, j_slen, j_callV0, j_callI0, j_callS0, j_callV1, j_callI1, j_callS1, j_callV2, j_callI2, j_callS2, j_callV3, j_callS3, j_callV4, j_callS4, j_callV5, j_callS5, j_pushS, j_pushN, j_sh0, j_sh1, j_sh2, j_sh3, j_sh4, Int32.reduceAdd, Int32.reduceMul, Int32.reduceSub, Int32.reduceLT, Int32.reduceLE, eq_self, i32_10, i32_01, ne_eq, hrow_s, hrow_n, ne10, ne100, ne1000, ne7, ne4, ne14, ne9973, or_true, true_or, or_false, false_or, not_true_eq_false, not_false_eq_true, false_implies, implies_true, and_true, forall_const, true_implies, jargs_n, jargs_r, jargs_i, List.cons_append, List.nil_append, true_and, Nat.reduceEqDiff, reduceIte, ft_X7_meters_0, ft_X7_meters_1, ft_X7_meters_2, ft_X7_meters_3, ft_X7_meters_4, ft_X7_meters_5, ft_X7_meters_6, ft_X7_meters_9, ft_X7_meters_12, ft_X7_meters_13, ft_X7_meters_14, ft_X7_meters_16, ft_X7_meters_17, ft_X7_meters_18, ft_X7_meters_19, ft_X7_meters_20, ft_X7_meters_21, ft_X7_meters_24, ft_X7_meters_27, ft_X7_meters_28, fl_71_2, s.mP, hc, ar_24 hr (show j < 4 by omega), nI_1]
    exact hk
theorem ok_X7_meters : jMeets Y_X7_meters S_X7_meters := by
  intro nb vs mem Q h
  obtain ⟨C, z, r, P, K, B, rfl, rfl, hr, s, iv, hQ⟩ := h
  refine Ok.run OK_X7_meters [4] 40 [none, none] pn7 (Nat.le_of_ble_eq_true rfl) rfl ?_
  simp -implicitDefEqProofs only [jr_0, jr_1, jr_2, j_iconst, j_lconst, j_iload0, j_aload0, j_istore0, j_astore0, j_iinc0, j_iload1, j_aload1, j_istore1, j_astore1, j_iinc1, j_iload2, j_aload2, j_istore2, j_astore2, j_iinc2, j_iload3, j_aload3, j_istore3, j_astore3, j_iinc3, j_iload4, j_aload4, j_istore4, j_astore4, j_iinc4, j_iload5, j_aload5, j_istore5, j_astore5, j_iinc5, j_iload6, j_aload6, j_istore6, j_astore6, j_iinc6, j_iload7, j_aload7, j_istore7, j_astore7, j_iinc7, j_iload8, j_aload8, j_istore8, j_astore8, j_iinc8, j_iadd, j_isub, j_imul, j_iand, j_ior, j_ixor, j_ishl, j_ishr, j_iushr, j_idiv, j_irem, j_ineg, j_ladd, j_lmul, j_land, j_lor, j_lcmp, j_lushr, j_lshl, j_i2l, j_l2i, j_dupI, j_dupR, j_popI, j_dup2, j_ifeq, j_iceq, j_ifne, j_icne, j_iflt, j_iclt, j_ifge, j_icge, j_ifgt, j_icgt, j_ifle, j_icle, j_goto, j_tsw, j_sw0, j_sw1, j_ireturn, j_zreturn, j_lreturn, j_return, j_getfield, j_putI, j_putJ, j_putR, j_iaload, j_baload, j_iastore, j_bastore, j_aaload, j_q, j_aastore, j_acopy, j_mmin, j_mmax, j_mabs, j_objinit, j_new, j_newI, j_newQ, j_sld, j_slen, j_callV0, j_callI0, j_callS0, j_callV1, j_callI1, j_callS1, j_callV2, j_callI2, j_callS2, j_callV3, j_callS3, j_callV4, j_callS4, j_callV5, j_callS5, j_pushS, j_pushN, j_sh0, j_sh1, j_sh2, j_sh3, j_sh4, Int32.reduceAdd, Int32.reduceMul, Int32.reduceSub, Int32.reduceLT, Int32.reduceLE, eq_self, i32_10, i32_01, ne_eq, hrow_s, hrow_n, ne10, ne100, ne1000, ne7, ne4, ne14, ne9973, or_true, true_or, or_false, false_or, not_true_eq_false, not_false_eq_true, false_implies, implies_true, and_true, forall_const, true_implies, jargs_n, jargs_r, jargs_i, List.cons_append, List.nil_append, true_and, Nat.reduceEqDiff, reduceIte, ft_X7_meters_0, ft_X7_meters_1, ft_X7_meters_2, ft_X7_meters_3, ft_X7_meters_4, ft_X7_meters_5, ft_X7_meters_6, ft_X7_meters_9, ft_X7_meters_12, ft_X7_meters_13, ft_X7_meters_14, ft_X7_meters_16, ft_X7_meters_17, ft_X7_meters_18, ft_X7_meters_19, ft_X7_meters_20, ft_X7_meters_21, ft_X7_meters_24, ft_X7_meters_27, ft_X7_meters_28]
  exact lp_X7_meters hr s (by rw [suF_m iv s.h4]; exact hQ) P 0 (by omega)
theorem s_X7_meters {nb r P K B : Nat} {C : Nat → Nat → Int32} {z : Nat → Int64} {Q : jQ} (hr : jMr r) (s : SR C P K) (iv : Inv P K B (C r)) (hQ : Q (some (.int (metersF (C r)))) (memS 94 C z)) : S_X7_meters nb [.ref 71, .ref r] (memS 94 C z) Q := ⟨C, z, r, P, K, B, rfl, rfl, hr, s, iv, hQ⟩
def S_X7_left : jSp := fun _ vs mem Q => ∃ C z P K B, vs = [.ref 71] ∧ mem = memS 94 C z ∧ SR C P K ∧ Inv P K B (C 78) ∧ Q (some (.int (restsF (C 78)))) (memS 94 C z)
def F_X7_left_0 : Nat → jT := fun pc => (bif Nat.blt pc 5 then (bif Nat.blt pc 2 then (bif Nat.blt pc 1 then (bif Nat.beq pc 0 then J_iconst 0 1 else jbad) else (bif Nat.beq pc 1 then J_istore 1 2 else jbad)) else (bif Nat.blt pc 3 then (bif Nat.beq pc 2 then J_iconst 0 3 else jbad) else (bif Nat.blt pc 4 then (bif Nat.beq pc 3 then J_istore 2 4 else jbad) else (bif Nat.beq pc 4 then J_iload 2 5 else jbad)))) else (bif Nat.blt pc 9 then (bif Nat.blt pc 6 then (bif Nat.beq pc 5 then J_aload 0 6 else jbad) else (bif Nat.beq pc 6 then J_getfield 7 4 9 else jbad)) else (bif Nat.blt pc 12 then (bif Nat.beq pc 9 then J_icge 30 12 else jbad) else (bif Nat.blt pc 13 then (bif Nat.beq pc 12 then J_iload 1 13 else jbad) else (bif Nat.beq pc 13 then J_aload 0 14 else jbad)))))
theorem ftl_X7_left_0 : F_X7_left_0 0 = J_iconst 0 1 := rfl
theorem ftl_X7_left_1 : F_X7_left_0 1 = J_istore 1 2 := rfl
theorem ftl_X7_left_2 : F_X7_left_0 2 = J_iconst 0 3 := rfl
theorem ftl_X7_left_3 : F_X7_left_0 3 = J_istore 2 4 := rfl
theorem ftl_X7_left_4 : F_X7_left_0 4 = J_iload 2 5 := rfl
theorem ftl_X7_left_5 : F_X7_left_0 5 = J_aload 0 6 := rfl
theorem ftl_X7_left_6 : F_X7_left_0 6 = J_getfield 7 4 9 := rfl
theorem ftl_X7_left_9 : F_X7_left_0 9 = J_icge 30 12 := rfl
theorem ftl_X7_left_12 : F_X7_left_0 12 = J_iload 1 13 := rfl
theorem ftl_X7_left_13 : F_X7_left_0 13 = J_aload 0 14 := rfl
theorem F_X7_left_0_ok : jOK Y_X7_left none (F_X7_left_0) := (jOK_node (jOK_node (jOK_node (jOK_leaf (sn_iconst dX7_left_0 rfl rfl)) (jOK_leaf (sn_istore_n dX7_left_1 rfl rfl (by decide)))) (jOK_node (jOK_leaf (sn_iconst dX7_left_2 rfl rfl)) (jOK_node (jOK_leaf (sn_istore_n dX7_left_3 rfl rfl (by decide))) (jOK_leaf (sn_iload_n dX7_left_4 rfl rfl))))) (jOK_node (jOK_node (jOK_leaf (sn_aload_n dX7_left_5 rfl rfl)) (jOK_leaf (sn_getfield dX7_left_6 rfl rfl (by decide) tw_618 jin7))) (jOK_node (jOK_leaf (sn_icge dX7_left_9 rfl rfl)) (jOK_node (jOK_leaf (sn_iload_n dX7_left_12 rfl rfl)) (jOK_leaf (sn_aload_n dX7_left_13 rfl rfl))))))
def F_X7_left_14 : Nat → jT := fun pc => (bif Nat.blt pc 22 then (bif Nat.blt pc 19 then (bif Nat.blt pc 17 then (bif Nat.beq pc 14 then J_getfield 7 10 17 else jbad) else (bif Nat.beq pc 17 then J_iconst 32 19 else jbad)) else (bif Nat.blt pc 20 then (bif Nat.beq pc 19 then J_iload 2 20 else jbad) else (bif Nat.blt pc 21 then (bif Nat.beq pc 20 then J_iadd 21 else jbad) else (bif Nat.beq pc 21 then J_iaload 22 else jbad)))) else (bif Nat.blt pc 27 then (bif Nat.blt pc 23 then (bif Nat.beq pc 22 then J_iadd 23 else jbad) else (bif Nat.blt pc 24 then (bif Nat.beq pc 23 then J_istore 1 24 else jbad) else (bif Nat.beq pc 24 then J_iinc 2 1 27 else jbad))) else (bif Nat.blt pc 30 then (bif Nat.beq pc 27 then J_goto 4 else jbad) else (bif Nat.blt pc 31 then (bif Nat.beq pc 30 then J_iload 1 31 else jbad) else (bif Nat.beq pc 31 then J_ireturn 0 0 else jbad)))))
theorem ftl_X7_left_14 : F_X7_left_14 14 = J_getfield 7 10 17 := rfl
theorem ftl_X7_left_17 : F_X7_left_14 17 = J_iconst 32 19 := rfl
theorem ftl_X7_left_19 : F_X7_left_14 19 = J_iload 2 20 := rfl
theorem ftl_X7_left_20 : F_X7_left_14 20 = J_iadd 21 := rfl
theorem ftl_X7_left_21 : F_X7_left_14 21 = J_iaload 22 := rfl
theorem ftl_X7_left_22 : F_X7_left_14 22 = J_iadd 23 := rfl
theorem ftl_X7_left_23 : F_X7_left_14 23 = J_istore 1 24 := rfl
theorem ftl_X7_left_24 : F_X7_left_14 24 = J_iinc 2 1 27 := rfl
theorem ftl_X7_left_27 : F_X7_left_14 27 = J_goto 4 := rfl
theorem ftl_X7_left_30 : F_X7_left_14 30 = J_iload 1 31 := rfl
theorem ftl_X7_left_31 : F_X7_left_14 31 = J_ireturn 0 0 := rfl
theorem F_X7_left_14_ok : jOK Y_X7_left none (F_X7_left_14) := (jOK_node (jOK_node (jOK_node (jOK_leaf (sn_getfield dX7_left_14 rfl rfl (by decide) tw_624 jin7)) (jOK_leaf (sn_bipush dX7_left_17 rfl rfl))) (jOK_node (jOK_leaf (sn_iload_n dX7_left_19 rfl rfl)) (jOK_node (jOK_leaf (sn_iadd dX7_left_20 rfl)) (jOK_leaf (sn_iaload dX7_left_21 rfl))))) (jOK_node (jOK_node (jOK_leaf (sn_iadd dX7_left_22 rfl)) (jOK_node (jOK_leaf (sn_istore_n dX7_left_23 rfl rfl (by decide))) (jOK_leaf (sn_iinc dX7_left_24 rfl rfl (by decide))))) (jOK_node (jOK_leaf (sn_goto dX7_left_27 rfl)) (jOK_node (jOK_leaf (sn_iload_n dX7_left_30 rfl rfl)) (jOK_leaf (sn_ireturn dX7_left_31 rfl rfl))))))
def F_X7_left_0_31 : Nat → jT := fun pc => bif Nat.blt pc 14 then F_X7_left_0 pc else F_X7_left_14 pc
theorem F_X7_left_0_31_l {pc : Nat} (h : Nat.blt pc 14 = true) : F_X7_left_0_31 pc = F_X7_left_0 pc := by unfold F_X7_left_0_31; rw [h]; rfl
theorem F_X7_left_0_31_r {pc : Nat} (h : Nat.blt pc 14 = false) : F_X7_left_0_31 pc = F_X7_left_14 pc := by unfold F_X7_left_0_31; rw [h]; rfl
theorem F_X7_left_0_31_ok : jOK Y_X7_left none (F_X7_left_0_31) := jOK_node (F_X7_left_0_ok) (F_X7_left_14_ok)
def F_X7_left : Nat → jT := F_X7_left_0_31
theorem OK_X7_left : jOK Y_X7_left none (F_X7_left) := F_X7_left_0_31_ok
theorem ft_X7_left_0 : F_X7_left 0 = J_iconst 0 1 := (F_X7_left_0_31_l rfl).trans (ftl_X7_left_0)
theorem ft_X7_left_1 : F_X7_left 1 = J_istore 1 2 := (F_X7_left_0_31_l rfl).trans (ftl_X7_left_1)
theorem ft_X7_left_2 : F_X7_left 2 = J_iconst 0 3 := (F_X7_left_0_31_l rfl).trans (ftl_X7_left_2)
theorem ft_X7_left_3 : F_X7_left 3 = J_istore 2 4 := (F_X7_left_0_31_l rfl).trans (ftl_X7_left_3)
theorem ft_X7_left_4 : F_X7_left 4 = J_iload 2 5 := (F_X7_left_0_31_l rfl).trans (ftl_X7_left_4)
theorem ft_X7_left_5 : F_X7_left 5 = J_aload 0 6 := (F_X7_left_0_31_l rfl).trans (ftl_X7_left_5)
theorem ft_X7_left_6 : F_X7_left 6 = J_getfield 7 4 9 := (F_X7_left_0_31_l rfl).trans (ftl_X7_left_6)
theorem ft_X7_left_9 : F_X7_left 9 = J_icge 30 12 := (F_X7_left_0_31_l rfl).trans (ftl_X7_left_9)
theorem ft_X7_left_12 : F_X7_left 12 = J_iload 1 13 := (F_X7_left_0_31_l rfl).trans (ftl_X7_left_12)
theorem ft_X7_left_13 : F_X7_left 13 = J_aload 0 14 := (F_X7_left_0_31_l rfl).trans (ftl_X7_left_13)
theorem ft_X7_left_14 : F_X7_left 14 = J_getfield 7 10 17 := (F_X7_left_0_31_r rfl).trans (ftl_X7_left_14)
theorem ft_X7_left_17 : F_X7_left 17 = J_iconst 32 19 := (F_X7_left_0_31_r rfl).trans (ftl_X7_left_17)
theorem ft_X7_left_19 : F_X7_left 19 = J_iload 2 20 := (F_X7_left_0_31_r rfl).trans (ftl_X7_left_19)
theorem ft_X7_left_20 : F_X7_left 20 = J_iadd 21 := (F_X7_left_0_31_r rfl).trans (ftl_X7_left_20)
theorem ft_X7_left_21 : F_X7_left 21 = J_iaload 22 := (F_X7_left_0_31_r rfl).trans (ftl_X7_left_21)
theorem ft_X7_left_22 : F_X7_left 22 = J_iadd 23 := (F_X7_left_0_31_r rfl).trans (ftl_X7_left_22)
theorem ft_X7_left_23 : F_X7_left 23 = J_istore 1 24 := (F_X7_left_0_31_r rfl).trans (ftl_X7_left_23)
theorem ft_X7_left_24 : F_X7_left 24 = J_iinc 2 1 27 := (F_X7_left_0_31_r rfl).trans (ftl_X7_left_24)
theorem ft_X7_left_27 : F_X7_left 27 = J_goto 4 := (F_X7_left_0_31_r rfl).trans (ftl_X7_left_27)
theorem ft_X7_left_30 : F_X7_left 30 = J_iload 1 31 := (F_X7_left_0_31_r rfl).trans (ftl_X7_left_30)
theorem ft_X7_left_31 : F_X7_left 31 = J_ireturn 0 0 := (F_X7_left_0_31_r rfl).trans (ftl_X7_left_31)
theorem lp_X7_left {Q : jQ} {C : Nat → Nat → Int32} {z : Nat → Int64} {nb P K : Nat} (s : SR C P K) (h : Q (some (.int (suF (C 78) 32 K))) (memS 94 C z)) :
    ∀ k j, j + k = K → Rn Y_X7_left none Q 4 [some (.ref 71), some (.int (suF (C 78) 32 j)), some (.int (nI j))] [] (memS 94 C z) (nb, 0, 0) := by
  have h6 := s.h6
  intro k
  induction k with
  | zero =>
    intro j hj
    have hc : (nI K ≤ nI j) = True := eq_true (nI_le (by omega) (by omega))
    refine jrun_first OK_X7_left (C := [4]) 60 ?_
    simp -implicitDefEqProofs only [jr_0, jr_1, jr_2, j_iconst, j_lconst, j_iload0, j_aload0, j_istore0, j_astore0, j_iinc0, j_iload1, j_aload1, j_istore1, j_astore1, j_iinc1, j_iload2, j_aload2, j_istore2, j_astore2, j_iinc2, j_iload3, j_aload3, j_istore3, j_astore3, j_iinc3, j_iload4, j_aload4, j_istore4, j_astore4, j_iinc4, j_iload5, j_aload5, j_istore5, j_astore5, j_iinc5, j_iload6, j_aload6, j_istore6, j_astore6, j_iinc6, j_iload7, j_aload7, j_istore7, j_astore7, j_iinc7, j_iload8, j_aload8, j_istore8, j_astore8, j_iinc8, j_iadd, j_isub, j_imul, j_iand, j_ior, j_ixor, j_ishl, j_ishr, j_iushr, j_idiv, j_irem, j_ineg, j_ladd, j_lmul, j_land, j_lor, j_lcmp, j_lushr, j_lshl, j_i2l, j_l2i, j_dupI, j_dupR, j_popI, j_dup2, j_ifeq, j_iceq, j_ifne, j_icne, j_iflt, j_iclt, j_ifge, j_icge, j_ifgt, j_icgt, j_ifle, j_icle, j_goto, j_tsw, j_sw0, j_sw1, j_ireturn, j_zreturn, j_lreturn, j_return, j_getfield, j_putI, j_putJ, j_putR, j_iaload, j_baload, j_iastore, j_bastore, j_aaload, j_q, j_aastore, j_acopy, j_mmin, j_mmax, j_mabs, j_objinit, j_new, j_newI, j_newQ, j_sld, j_slen, j_callV0, j_callI0, j_callS0, j_callV1, j_callI1, j_callS1, j_callV2, j_callI2, j_callS2, j_callV3, j_callS3, j_callV4, j_callS4, j_callV5, j_callS5, j_pushS, j_pushN, j_sh0, j_sh1, j_sh2, j_sh3, j_sh4, Int32.reduceAdd, Int32.reduceMul, Int32.reduceSub, Int32.reduceLT, Int32.reduceLE, eq_self, i32_10, i32_01, ne_eq, hrow_s, hrow_n, ne10, ne100, ne1000, ne7, ne4, ne14, ne9973, or_true, true_or, or_false, false_or, not_true_eq_false, not_false_eq_true, false_implies, implies_true, and_true, forall_const, true_implies, jargs_n, jargs_r, jargs_i, List.cons_append, List.nil_append, true_and, Nat.reduceEqDiff, reduceIte, ft_X7_left_0, ft_X7_left_1, ft_X7_left_2, ft_X7_left_3, ft_X7_left_4, ft_X7_left_5, ft_X7_left_6, ft_X7_left_9, ft_X7_left_12, ft_X7_left_13, ft_X7_left_14, ft_X7_left_17, ft_X7_left_19, ft_X7_left_20, ft_X7_left_21, ft_X7_left_22, ft_X7_left_23, ft_X7_left_24, ft_X7_left_27, ft_X7_left_30, ft_X7_left_31, fl_71_4, s.mK, hc]
    rw [show j = K by omega]
    exact h
  | succ k ih =>
    intro j hj
    have hc : (nI K ≤ nI j) = False := eq_false (nI_ge (by omega) (by omega))
    have hk := ih (j + 1) (by omega)
    refine jrun_first OK_X7_left (C := [4]) 60 ?_
    simp -implicitDefEqProofs only [jr_0, jr_1, jr_2, j_iconst, j_lconst, j_iload0, j_aload0, j_istore0, j_astore0, j_iinc0, j_iload1, j_aload1, j_istore1, j_astore1, j_iinc1, j_iload2, j_aload2, j_istore2, j_astore2, j_iinc2, j_iload3, j_aload3, j_istore3, j_astore3, j_iinc3, j_iload4, j_aload4, j_istore4, j_astore4, j_iinc4, j_iload5, j_aload5, j_istore5, j_astore5, j_iinc5, j_iload6, j_aload6, j_istore6, j_astore6, j_iinc6, j_iload7, j_aload7, j_istore7, j_astore7, j_iinc7, j_iload8, j_aload8, j_istore8, j_astore8, j_iinc8, j_iadd, j_isub, j_imul, j_iand, j_ior, j_ixor, j_ishl, j_ishr, j_iushr, j_idiv, j_irem, j_ineg, j_ladd, j_lmul, j_land, j_lor, j_lcmp, j_lushr, j_lshl, j_i2l, j_l2i, j_dupI, j_dupR, j_popI, j_dup2, j_ifeq, j_iceq, j_ifne, j_icne, j_iflt, j_iclt, j_ifge, j_icge, j_ifgt, j_icgt, j_ifle, j_icle, j_goto, j_tsw, j_sw0, j_sw1, j_ireturn, j_zreturn, j_lreturn, j_return, j_getfield, j_putI, j_putJ, j_putR, j_iaload, j_baload, j_iastore, j_bastore, j_aaload, j_q, j_aastore, j_acopy, j_mmin, j_mmax, j_mabs, j_objinit, j_new, j_newI, j_newQ, j_sld, j_slen, j_callV0, j_callI0, j_callS0, j_callV1, j_callI1, j_callS1, j_callV2, j_callI2, j_callS2, j_callV3, j_callS3, j_callV4, j_callS4, j_callV5, j_callS5, j_pushS, j_pushN, j_sh0, j_sh1, j_sh2, j_sh3, j_sh4, Int32.reduceAdd, Int32.reduceMul, Int32.reduceSub, Int32.reduceLT, Int32.reduceLE, eq_self, i32_10, i32_01, ne_eq, hrow_s, hrow_n, ne10, ne100, ne1000, ne7, ne4, ne14, ne9973, or_true, true_or, or_false, false_or, not_true_eq_false, not_false_eq_true, false_implies, implies_true, and_true, forall_const, true_implies, jargs_n, jargs_r, jargs_i, List.cons_append, List.nil_append, true_and, Nat.reduceEqDiff, reduceIte, ft_X7_left_0, ft_X7_left_1, ft_X7_left_2, ft_X7_left_3, ft_X7_left_4, ft_X7_left_5, ft_X7_left_6, ft_X7_left_9, ft_X7_left_12, ft_X7_left_13, ft_X7_left_14, ft_X7_left_17, ft_X7_left_19, ft_X7_left_20, ft_X7_left_21, ft_X7_left_22, ft_X7_left_23, ft_X7_left_24, ft_X7_left_27, ft_X7_left_30, ft_X7_left_31, fl_71_4, fl_71_10, s.mK, hc, ar_32 jmr78 (show j < 6 by omega), nI_1]
    exact hk
theorem ok_X7_left : jMeets Y_X7_left S_X7_left := by
  intro nb vs mem Q h
  obtain ⟨C, z, P, K, B, rfl, rfl, s, iv, hQ⟩ := h
  refine Ok.run OK_X7_left [4] 40 [none, none] pn7 (Nat.le_of_ble_eq_true rfl) rfl ?_
  simp -implicitDefEqProofs only [jr_0, jr_1, jr_2, j_iconst, j_lconst, j_iload0, j_aload0, j_istore0, j_astore0, j_iinc0, j_iload1, j_aload1, j_istore1, j_astore1, j_iinc1, j_iload2, j_aload2, j_istore2, j_astore2, j_iinc2, j_iload3, j_aload3, j_istore3, j_astore3, j_iinc3, j_iload4, j_aload4, j_istore4, j_astore4, j_iinc4, j_iload5, j_aload5, j_istore5, j_astore5, j_iinc5, j_iload6, j_aload6, j_istore6, j_astore6, j_iinc6, j_iload7, j_aload7, j_istore7, j_astore7, j_iinc7, j_iload8, j_aload8, j_istore8, j_astore8, j_iinc8, j_iadd, j_isub, j_imul, j_iand, j_ior, j_ixor, j_ishl, j_ishr, j_iushr, j_idiv, j_irem, j_ineg, j_ladd, j_lmul, j_land, j_lor, j_lcmp, j_lushr, j_lshl, j_i2l, j_l2i, j_dupI, j_dupR, j_popI, j_dup2, j_ifeq, j_iceq, j_ifne, j_icne, j_iflt, j_iclt, j_ifge, j_icge, j_ifgt, j_icgt, j_ifle, j_icle, j_goto, j_tsw, j_sw0, j_sw1, j_ireturn, j_zreturn, j_lreturn, j_return, j_getfield, j_putI, j_putJ, j_putR, j_iaload, j_baload, j_iastore, j_bastore, j_aaload, j_q, j_aastore, j_acopy, j_mmin, j_mmax, j_mabs, j_objinit, j_new, j_newI, j_newQ, j_sld, j_slen, j_callV0, j_callI0, j_callS0, j_callV1, j_callI1, j_callS1, j_callV2, j_callI2, j_callS2, j_callV3, j_callS3, j_callV4, j_callS4, j_callV5, j_callS5, j_pushS, j_pushN, j_sh0, j_sh1, j_sh2, j_sh3, j_sh4, Int32.reduceAdd, Int32.reduceMul, Int32.reduceSub, Int32.reduceLT, Int32.reduceLE, eq_self, i32_10, i32_01, ne_eq, hrow_s, hrow_n, ne10, ne100, ne1000, ne7, ne4, ne14, ne9973, or_true, true_or, or_false, false_or, not_true_eq_false, not_false_eq_true, false_implies, implies_true, and_true, forall_const, true_implies, jargs_n, jargs_r, jargs_i, List.cons_append, List.nil_append, true_and, Nat.reduceEqDiff, reduceIte, ft_X7_left_0, ft_X7_left_1, ft_X7_left_2, ft_X7_left_3, ft_X7_left_4, ft_X7_left_5, ft_X7_left_6, ft_X7_left_9, ft_X7_left_12, ft_X7_left_13, ft_X7_left_14, ft_X7_left_17, ft_X7_left_19, ft_X7_left_20, ft_X7_left_21, ft_X7_left_22, ft_X7_left_23, ft_X7_left_24, ft_X7_left_27, ft_X7_left_30, ft_X7_left_31]
  exact lp_X7_left s (by rw [suF_r iv s.h6]; exact hQ) K 0 (by omega)
theorem s_X7_left {nb P K B : Nat} {C : Nat → Nat → Int32} {z : Nat → Int64} {Q : jQ} (s : SR C P K) (iv : Inv P K B (C 78)) (hQ : Q (some (.int (restsF (C 78)))) (memS 94 C z)) : S_X7_left nb [.ref 71] (memS 94 C z) Q := ⟨C, z, P, K, B, rfl, rfl, s, iv, hQ⟩
/-! the place in the order -/
noncomputable def plF (o : Nat → Int32) (p : Int32) : Nat → Int32
  | 0 => -9
  | k + 1 => pick (o k = p) (nI k) (plF o p k)
theorem plF_none {o : Nat → Int32} {p : Int32} : ∀ n, (∀ i, i < n → ¬ o i = p) → plF o p n = -9
  | 0, _ => rfl
  | n + 1, h => by
    show pick _ _ (plF o p n) = _
    rw [pick_f (h n (by omega))]
    exact plF_none n fun i hi => h i (by omega)
theorem plF_hit {o : Nat → Int32} {p : Int32} {i : Nat} (hi : o i = p) : ∀ n, i < n → (∀ j, j < n → o j = p → j = i) → plF o p n = nI i
  | 0, h, _ => absurd h (Nat.not_lt_zero i)
  | n + 1, h, hu => by
    show pick _ _ (plF o p n) = _
    by_cases g : n = i
    · subst g
      rw [pick_t hi]
    · rw [pick_f fun q => g (hu n (by omega) q)]
      exact plF_hit hi n (by omega) fun j hj q => hu j (by omega) q
theorem idxF_none {o : Nat → Int32} {p : Int32} : ∀ k i, (∀ j, i ≤ j → j < i + k → ¬ o j = p) → idxF o p k i = -9
  | 0, _, _ => rfl
  | k + 1, i, h => by
    unfold idxF
    rw [if_neg (h i (by omega) (by omega))]
    exact idxF_none k (i + 1) fun j h1 h2 => h j (by omega) (by omega)
theorem idxF_hit {o : Nat → Int32} {p : Int32} {i : Nat} (hi : o i = p) : ∀ k a, a ≤ i → i < a + k → (∀ j, a ≤ j → j < i → ¬ o j = p) → idxF o p k a = nI i
  | 0, a, h1, h2, _ => by omega
  | k + 1, a, h1, h2, hu => by
    unfold idxF
    by_cases g : a = i
    · subst g
      rw [if_pos hi]
    · rw [if_neg (hu a (by omega) (by omega))]
      exact idxF_hit hi k (a + 1) (by omega) (by omega) fun j h3 h4 => hu j (by omega) h4
theorem plF_idx {T ρ o : Nat → Int32} {p : Int32} (ha : Ag (ordR T ρ 15).2 o (ordR T ρ 15).1) : plF o p (ordR T ρ 15).2 = idxR T ρ p := by
  have hd := ord_dis (T := T) (ρ := ρ) (fed := 15) (o := zrow) 4 (by omega)
  have hd : ∀ i j, i < (ordR T ρ 15).2 → j < (ordR T ρ 15).2 → (ordR T ρ 15).1 i = (ordR T ρ 15).1 j → i = j := hd
  unfold idxR
  by_cases g : ∃ i, i < (ordR T ρ 15).2 ∧ (ordR T ρ 15).1 i = p
  · obtain ⟨i, hi, e⟩ := g
    rw [plF_hit (i := i) (by rw [ha i hi]; exact e) _ hi fun j hj q => hd j i hj hi (by rw [e, ← ha j hj]; exact q)]
    rw [idxF_hit e _ 0 (by omega) (by omega) fun j _ h2 q => by
      have := hd j i (by omega) hi (by rw [e]; exact q)
      omega]
  · rw [plF_none _ fun i hi q => g ⟨i, hi, by rw [← ha i hi]; exact q⟩, idxF_none _ 0 fun j _ h2 q => g ⟨j, by omega, q⟩]
def S_X7_placeOf : jSp := fun _ vs mem Q => ∃ C z r P K B, ∃ p : Int32, vs = [.ref 71, .ref r, .int p] ∧ mem = memS 94 C z ∧ jMr r ∧ SR C P K ∧ Inv P K B (C r) ∧ C 71 22 = 15 ∧ ∀ C', Lo r C C' → Q (some (.int (idxR (C 5) (C r) p))) (memS 94 C' z)
def F_X7_placeOf_0 : Nat → jT := fun pc => (bif Nat.blt pc 9 then (bif Nat.blt pc 5 then (bif Nat.blt pc 1 then (bif Nat.beq pc 0 then J_aload 0 1 else jbad) else (bif Nat.blt pc 2 then (bif Nat.beq pc 1 then J_aload 1 2 else jbad) else (bif Nat.beq pc 2 then J_callV 7 S_X7_layOrder 1 5 else jbad))) else (bif Nat.blt pc 7 then (bif Nat.beq pc 5 then J_iconst (-9) 7 else jbad) else (bif Nat.blt pc 8 then (bif Nat.beq pc 7 then J_istore 3 8 else jbad) else (bif Nat.beq pc 8 then J_iconst 0 9 else jbad)))) else (bif Nat.blt pc 14 then (bif Nat.blt pc 11 then (bif Nat.beq pc 9 then J_istore 4 11 else jbad) else (bif Nat.blt pc 13 then (bif Nat.beq pc 11 then J_iload 4 13 else jbad) else (bif Nat.beq pc 13 then J_aload 0 14 else jbad))) else (bif Nat.blt pc 17 then (bif Nat.beq pc 14 then J_getfield 7 25 17 else jbad) else (bif Nat.blt pc 20 then (bif Nat.beq pc 17 then J_icge 44 20 else jbad) else (bif Nat.beq pc 20 then J_aload 0 21 else jbad)))))
theorem ftl_X7_placeOf_0 : F_X7_placeOf_0 0 = J_aload 0 1 := rfl
theorem ftl_X7_placeOf_1 : F_X7_placeOf_0 1 = J_aload 1 2 := rfl
theorem ftl_X7_placeOf_2 : F_X7_placeOf_0 2 = J_callV 7 S_X7_layOrder 1 5 := rfl
theorem ftl_X7_placeOf_5 : F_X7_placeOf_0 5 = J_iconst (-9) 7 := rfl
theorem ftl_X7_placeOf_7 : F_X7_placeOf_0 7 = J_istore 3 8 := rfl
theorem ftl_X7_placeOf_8 : F_X7_placeOf_0 8 = J_iconst 0 9 := rfl
theorem ftl_X7_placeOf_9 : F_X7_placeOf_0 9 = J_istore 4 11 := rfl
theorem ftl_X7_placeOf_11 : F_X7_placeOf_0 11 = J_iload 4 13 := rfl
theorem ftl_X7_placeOf_13 : F_X7_placeOf_0 13 = J_aload 0 14 := rfl
theorem ftl_X7_placeOf_14 : F_X7_placeOf_0 14 = J_getfield 7 25 17 := rfl
theorem ftl_X7_placeOf_17 : F_X7_placeOf_0 17 = J_icge 44 20 := rfl
theorem ftl_X7_placeOf_20 : F_X7_placeOf_0 20 = J_aload 0 21 := rfl
theorem F_X7_placeOf_0_ok : jOK Y_X7_placeOf none (F_X7_placeOf_0) := (jOK_node (jOK_node (jOK_node (jOK_leaf (sn_aload_n dX7_placeOf_0 rfl rfl)) (jOK_node (jOK_leaf (sn_aload_n dX7_placeOf_1 rfl rfl)) (jOK_leaf (sn_callV (Y' := Y_X7_layOrder) ok_X7_layOrder dX7_placeOf_2 rfl rfl rfl tw_800 tw_802 tp_36 tw_8 jc_X7_layOrder rfl ⟨by decide, by decide, rfl⟩ ⟨by decide, by decide⟩)))) (jOK_node (jOK_leaf (sn_bipush dX7_placeOf_5 rfl rfl)) (jOK_node (jOK_leaf (sn_istore_n dX7_placeOf_7 rfl rfl (by decide))) (jOK_leaf (sn_iconst dX7_placeOf_8 rfl rfl))))) (jOK_node (jOK_node (jOK_leaf (sn_istore dX7_placeOf_9 rfl (by decide))) (jOK_node (jOK_leaf (sn_iload dX7_placeOf_11 rfl)) (jOK_leaf (sn_aload_n dX7_placeOf_13 rfl rfl)))) (jOK_node (jOK_leaf (sn_getfield dX7_placeOf_14 rfl rfl (by decide) tw_639 jin7)) (jOK_node (jOK_leaf (sn_icge dX7_placeOf_17 rfl rfl)) (jOK_leaf (sn_aload_n dX7_placeOf_20 rfl rfl))))))
def F_X7_placeOf_21 : Nat → jT := fun pc => (bif Nat.blt pc 33 then (bif Nat.blt pc 27 then (bif Nat.blt pc 24 then (bif Nat.beq pc 21 then J_getfield 7 24 24 else jbad) else (bif Nat.blt pc 26 then (bif Nat.beq pc 24 then J_iload 4 26 else jbad) else (bif Nat.beq pc 26 then J_iaload 27 else jbad))) else (bif Nat.blt pc 28 then (bif Nat.beq pc 27 then J_iload 2 28 else jbad) else (bif Nat.blt pc 31 then (bif Nat.beq pc 28 then J_icne 36 31 else jbad) else (bif Nat.beq pc 31 then J_iload 4 33 else jbad)))) else (bif Nat.blt pc 38 then (bif Nat.blt pc 36 then (bif Nat.beq pc 33 then J_goto 37 else jbad) else (bif Nat.blt pc 37 then (bif Nat.beq pc 36 then J_iload 3 37 else jbad) else (bif Nat.beq pc 37 then J_istore 3 38 else jbad))) else (bif Nat.blt pc 44 then (bif Nat.blt pc 41 then (bif Nat.beq pc 38 then J_iinc 4 1 41 else jbad) else (bif Nat.beq pc 41 then J_goto 11 else jbad)) else (bif Nat.blt pc 45 then (bif Nat.beq pc 44 then J_iload 3 45 else jbad) else (bif Nat.beq pc 45 then J_ireturn 0 0 else jbad)))))
theorem ftl_X7_placeOf_21 : F_X7_placeOf_21 21 = J_getfield 7 24 24 := rfl
theorem ftl_X7_placeOf_24 : F_X7_placeOf_21 24 = J_iload 4 26 := rfl
theorem ftl_X7_placeOf_26 : F_X7_placeOf_21 26 = J_iaload 27 := rfl
theorem ftl_X7_placeOf_27 : F_X7_placeOf_21 27 = J_iload 2 28 := rfl
theorem ftl_X7_placeOf_28 : F_X7_placeOf_21 28 = J_icne 36 31 := rfl
theorem ftl_X7_placeOf_31 : F_X7_placeOf_21 31 = J_iload 4 33 := rfl
theorem ftl_X7_placeOf_33 : F_X7_placeOf_21 33 = J_goto 37 := rfl
theorem ftl_X7_placeOf_36 : F_X7_placeOf_21 36 = J_iload 3 37 := rfl
theorem ftl_X7_placeOf_37 : F_X7_placeOf_21 37 = J_istore 3 38 := rfl
theorem ftl_X7_placeOf_38 : F_X7_placeOf_21 38 = J_iinc 4 1 41 := rfl
theorem ftl_X7_placeOf_41 : F_X7_placeOf_21 41 = J_goto 11 := rfl
theorem ftl_X7_placeOf_44 : F_X7_placeOf_21 44 = J_iload 3 45 := rfl
theorem ftl_X7_placeOf_45 : F_X7_placeOf_21 45 = J_ireturn 0 0 := rfl
theorem F_X7_placeOf_21_ok : jOK Y_X7_placeOf none (F_X7_placeOf_21) := (jOK_node (jOK_node (jOK_node (jOK_leaf (sn_getfield dX7_placeOf_21 rfl rfl (by decide) tw_638 jin7)) (jOK_node (jOK_leaf (sn_iload dX7_placeOf_24 rfl)) (jOK_leaf (sn_iaload dX7_placeOf_26 rfl)))) (jOK_node (jOK_leaf (sn_iload_n dX7_placeOf_27 rfl rfl)) (jOK_node (jOK_leaf (sn_icne dX7_placeOf_28 rfl rfl)) (jOK_leaf (sn_iload dX7_placeOf_31 rfl))))) (jOK_node (jOK_node (jOK_leaf (sn_goto dX7_placeOf_33 rfl)) (jOK_node (jOK_leaf (sn_iload_n dX7_placeOf_36 rfl rfl)) (jOK_leaf (sn_istore_n dX7_placeOf_37 rfl rfl (by decide))))) (jOK_node (jOK_node (jOK_leaf (sn_iinc dX7_placeOf_38 rfl rfl (by decide))) (jOK_leaf (sn_goto dX7_placeOf_41 rfl))) (jOK_node (jOK_leaf (sn_iload_n dX7_placeOf_44 rfl rfl)) (jOK_leaf (sn_ireturn dX7_placeOf_45 rfl rfl))))))
def F_X7_placeOf_0_45 : Nat → jT := fun pc => bif Nat.blt pc 21 then F_X7_placeOf_0 pc else F_X7_placeOf_21 pc
theorem F_X7_placeOf_0_45_l {pc : Nat} (h : Nat.blt pc 21 = true) : F_X7_placeOf_0_45 pc = F_X7_placeOf_0 pc := by unfold F_X7_placeOf_0_45; rw [h]; rfl
theorem F_X7_placeOf_0_45_r {pc : Nat} (h : Nat.blt pc 21 = false) : F_X7_placeOf_0_45 pc = F_X7_placeOf_21 pc := by unfold F_X7_placeOf_0_45; rw [h]; rfl
theorem F_X7_placeOf_0_45_ok : jOK Y_X7_placeOf none (F_X7_placeOf_0_45) := jOK_node (F_X7_placeOf_0_ok) (F_X7_placeOf_21_ok)
def F_X7_placeOf : Nat → jT := F_X7_placeOf_0_45
theorem OK_X7_placeOf : jOK Y_X7_placeOf none (F_X7_placeOf) := F_X7_placeOf_0_45_ok
theorem ft_X7_placeOf_0 : F_X7_placeOf 0 = J_aload 0 1 := (F_X7_placeOf_0_45_l rfl).trans (ftl_X7_placeOf_0)
theorem ft_X7_placeOf_1 : F_X7_placeOf 1 = J_aload 1 2 := (F_X7_placeOf_0_45_l rfl).trans (ftl_X7_placeOf_1)
theorem ft_X7_placeOf_2 : F_X7_placeOf 2 = J_callV 7 S_X7_layOrder 1 5 := (F_X7_placeOf_0_45_l rfl).trans (ftl_X7_placeOf_2)
theorem ft_X7_placeOf_5 : F_X7_placeOf 5 = J_iconst (-9) 7 := (F_X7_placeOf_0_45_l rfl).trans (ftl_X7_placeOf_5)
theorem ft_X7_placeOf_7 : F_X7_placeOf 7 = J_istore 3 8 := (F_X7_placeOf_0_45_l rfl).trans (ftl_X7_placeOf_7)
theorem ft_X7_placeOf_8 : F_X7_placeOf 8 = J_iconst 0 9 := (F_X7_placeOf_0_45_l rfl).trans (ftl_X7_placeOf_8)
theorem ft_X7_placeOf_9 : F_X7_placeOf 9 = J_istore 4 11 := (F_X7_placeOf_0_45_l rfl).trans (ftl_X7_placeOf_9)
theorem ft_X7_placeOf_11 : F_X7_placeOf 11 = J_iload 4 13 := (F_X7_placeOf_0_45_l rfl).trans (ftl_X7_placeOf_11)
theorem ft_X7_placeOf_13 : F_X7_placeOf 13 = J_aload 0 14 := (F_X7_placeOf_0_45_l rfl).trans (ftl_X7_placeOf_13)
theorem ft_X7_placeOf_14 : F_X7_placeOf 14 = J_getfield 7 25 17 := (F_X7_placeOf_0_45_l rfl).trans (ftl_X7_placeOf_14)
theorem ft_X7_placeOf_17 : F_X7_placeOf 17 = J_icge 44 20 := (F_X7_placeOf_0_45_l rfl).trans (ftl_X7_placeOf_17)
theorem ft_X7_placeOf_20 : F_X7_placeOf 20 = J_aload 0 21 := (F_X7_placeOf_0_45_l rfl).trans (ftl_X7_placeOf_20)
theorem ft_X7_placeOf_21 : F_X7_placeOf 21 = J_getfield 7 24 24 := (F_X7_placeOf_0_45_r rfl).trans (ftl_X7_placeOf_21)
theorem ft_X7_placeOf_24 : F_X7_placeOf 24 = J_iload 4 26 := (F_X7_placeOf_0_45_r rfl).trans (ftl_X7_placeOf_24)
theorem ft_X7_placeOf_26 : F_X7_placeOf 26 = J_iaload 27 := (F_X7_placeOf_0_45_r rfl).trans (ftl_X7_placeOf_26)
theorem ft_X7_placeOf_27 : F_X7_placeOf 27 = J_iload 2 28 := (F_X7_placeOf_0_45_r rfl).trans (ftl_X7_placeOf_27)
theorem ft_X7_placeOf_28 : F_X7_placeOf 28 = J_icne 36 31 := (F_X7_placeOf_0_45_r rfl).trans (ftl_X7_placeOf_28)
theorem ft_X7_placeOf_31 : F_X7_placeOf 31 = J_iload 4 33 := (F_X7_placeOf_0_45_r rfl).trans (ftl_X7_placeOf_31)
theorem ft_X7_placeOf_33 : F_X7_placeOf 33 = J_goto 37 := (F_X7_placeOf_0_45_r rfl).trans (ftl_X7_placeOf_33)
theorem ft_X7_placeOf_36 : F_X7_placeOf 36 = J_iload 3 37 := (F_X7_placeOf_0_45_r rfl).trans (ftl_X7_placeOf_36)
theorem ft_X7_placeOf_37 : F_X7_placeOf 37 = J_istore 3 38 := (F_X7_placeOf_0_45_r rfl).trans (ftl_X7_placeOf_37)
theorem ft_X7_placeOf_38 : F_X7_placeOf 38 = J_iinc 4 1 41 := (F_X7_placeOf_0_45_r rfl).trans (ftl_X7_placeOf_38)
theorem ft_X7_placeOf_41 : F_X7_placeOf 41 = J_goto 11 := (F_X7_placeOf_0_45_r rfl).trans (ftl_X7_placeOf_41)
theorem ft_X7_placeOf_44 : F_X7_placeOf 44 = J_iload 3 45 := (F_X7_placeOf_0_45_r rfl).trans (ftl_X7_placeOf_44)
theorem ft_X7_placeOf_45 : F_X7_placeOf 45 = J_ireturn 0 0 := (F_X7_placeOf_0_45_r rfl).trans (ftl_X7_placeOf_45)
theorem lp_X7_placeOf {Q : jQ} {C : Nat → Nat → Int32} {z : Nat → Int64} {nb r n : Nat} {p : Int32} (hn : n ≤ 4) (en : C 71 25 = nI n) (h : Q (some (.int (plF (C 86) p n))) (memS 94 C z)) :
    ∀ k j, j + k = n → Rn Y_X7_placeOf none Q 11 [some (.ref 71), some (.ref r), some (.int p), some (.int (plF (C 86) p j)), some (.int (nI j))] [] (memS 94 C z) (nb, 0, 0) := by
  intro k
  induction k with
  | zero =>
    intro j hj
    have hc : (nI n ≤ nI j) = True := eq_true (nI_le (by omega) (by omega))
    refine jrun_first OK_X7_placeOf (C := [11]) 60 ?_
    simp -implicitDefEqProofs only [jr_0, jr_1, jr_2, j_iconst, j_lconst, j_iload0, j_aload0, j_istore0, j_astore0, j_iinc0, j_iload1, j_aload1, j_istore1, j_astore1, j_iinc1, j_iload2, j_aload2, j_istore2, j_astore2, j_iinc2, j_iload3, j_aload3, j_istore3, j_astore3, j_iinc3, j_iload4, j_aload4, j_istore4, j_astore4, j_iinc4, j_iload5, j_aload5, j_istore5, j_astore5, j_iinc5, j_iload6, j_aload6, j_istore6, j_astore6, j_iinc6, j_iload7, j_aload7, j_istore7, j_astore7, j_iinc7, j_iload8, j_aload8, j_istore8, j_astore8, j_iinc8, j_iadd, j_isub, j_imul, j_iand, j_ior, j_ixor, j_ishl, j_ishr, j_iushr, j_idiv, j_irem, j_ineg, j_ladd, j_lmul, j_land, j_lor, j_lcmp, j_lushr, j_lshl, j_i2l, j_l2i, j_dupI, j_dupR, j_popI, j_dup2, j_ifeq, j_iceq, j_ifne, j_icne, j_iflt, j_iclt, j_ifge, j_icge, j_ifgt, j_icgt, j_ifle, j_icle, j_goto, j_tsw, j_sw0, j_sw1, j_ireturn, j_zreturn, j_lreturn, j_return, j_getfield, j_putI, j_putJ, j_putR, j_iaload, j_baload, j_iastore, j_bastore, j_aaload, j_q, j_aastore, j_acopy, j_mmin, j_mmax, j_mabs, j_objinit, j_new, j_newI, j_newQ, j_sld, j_slen, j_callV0, j_callI0, j_callS0, j_callV1, j_callI1, j_callS1, j_callV2, j_callI2, j_callS2, j_callV3, j_callS3, j_callV4, j_callS4, j_callV5, j_callS5, j_pushS, j_pushN, j_sh0, j_sh1, j_sh2, j_sh3, j_sh4, Int32.reduceAdd, Int32.reduceMul, Int32.reduceSub, Int32.reduceLT, Int32.reduceLE, eq_self, i32_10, i32_01, ne_eq, hrow_s, hrow_n, ne10, ne100, ne1000, ne7, ne4, ne14, ne9973, or_true, true_or, or_false, false_or, not_true_eq_false, not_false_eq_true, false_implies, implies_true, and_true, forall_const, true_implies, jargs_n, jargs_r, jargs_i, List.cons_append, List.nil_append, true_and, Nat.reduceEqDiff, reduceIte, ft_X7_placeOf_0, ft_X7_placeOf_1, ft_X7_placeOf_2, ft_X7_placeOf_5, ft_X7_placeOf_7, ft_X7_placeOf_8, ft_X7_placeOf_9, ft_X7_placeOf_11, ft_X7_placeOf_13, ft_X7_placeOf_14, ft_X7_placeOf_17, ft_X7_placeOf_20, ft_X7_placeOf_21, ft_X7_placeOf_24, ft_X7_placeOf_26, ft_X7_placeOf_27, ft_X7_placeOf_28, ft_X7_placeOf_31, ft_X7_placeOf_33, ft_X7_placeOf_36, ft_X7_placeOf_37, ft_X7_placeOf_38, ft_X7_placeOf_41, ft_X7_placeOf_44, ft_X7_placeOf_45, fl_71_25, en, hc]
    rw [show j = n by omega]
    exact h
  | succ k ih =>
    intro j hj
    have hc : (nI n ≤ nI j) = False := eq_false (nI_ge (by omega) (by omega))
    have hk := ih (j + 1) (by omega)
    unfold plF at hk
    have v1 : vp_in (nI j) 4 := vp_in_nI (by omega) (by decide)
    refine jrun_first OK_X7_placeOf (C := [11]) 60 ?_
    simp -implicitDefEqProofs only [jr_0, jr_1, jr_2, j_iconst, j_lconst, j_iload0, j_aload0, j_istore0, j_astore0, j_iinc0, j_iload1, j_aload1, j_istore1, j_astore1, j_iinc1, j_iload2, j_aload2, j_istore2, j_astore2, j_iinc2, j_iload3, j_aload3, j_istore3, j_astore3, j_iinc3, j_iload4, j_aload4, j_istore4, j_astore4, j_iinc4, j_iload5, j_aload5, j_istore5, j_astore5, j_iinc5, j_iload6, j_aload6, j_istore6, j_astore6, j_iinc6, j_iload7, j_aload7, j_istore7, j_astore7, j_iinc7, j_iload8, j_aload8, j_istore8, j_astore8, j_iinc8, j_iadd, j_isub, j_imul, j_iand, j_ior, j_ixor, j_ishl, j_ishr, j_iushr, j_idiv, j_irem, j_ineg, j_ladd, j_lmul, j_land, j_lor, j_lcmp, j_lushr, j_lshl, j_i2l, j_l2i, j_dupI, j_dupR, j_popI, j_dup2, j_ifeq, j_iceq, j_ifne, j_icne, j_iflt, j_iclt, j_ifge, j_icge, j_ifgt, j_icgt, j_ifle, j_icle, j_goto, j_tsw, j_sw0, j_sw1, j_ireturn, j_zreturn, j_lreturn, j_return, j_getfield, j_putI, j_putJ, j_putR, j_iaload, j_baload, j_iastore, j_bastore, j_aaload, j_q, j_aastore, j_acopy, j_mmin, j_mmax, j_mabs, j_objinit, j_new, j_newI, j_newQ, j_sld, j_slen, j_callV0, j_callI0, j_callS0, j_callV1, j_callI1, j_callS1, j_callV2, j_callI2, j_callS2, j_callV3, j_callS3, j_callV4, j_callS4, j_callV5, j_callS5, j_pushS, j_pushN, j_sh0, j_sh1, j_sh2, j_sh3, j_sh4, Int32.reduceAdd, Int32.reduceMul, Int32.reduceSub, Int32.reduceLT, Int32.reduceLE, eq_self, i32_10, i32_01, ne_eq, hrow_s, hrow_n, ne10, ne100, ne1000, ne7, ne4, ne14, ne9973, or_true, true_or, or_false, false_or, not_true_eq_false, not_false_eq_true, false_implies, implies_true, and_true, forall_const, true_implies, jargs_n, jargs_r, jargs_i, List.cons_append, List.nil_append, true_and, Nat.reduceEqDiff, reduceIte, ft_X7_placeOf_0, ft_X7_placeOf_1, ft_X7_placeOf_2, ft_X7_placeOf_5, ft_X7_placeOf_7, ft_X7_placeOf_8, ft_X7_placeOf_9, ft_X7_placeOf_11, ft_X7_placeOf_13, ft_X7_placeOf_14, ft_X7_placeOf_17, ft_X7_placeOf_20, ft_X7_placeOf_21, ft_X7_placeOf_24, ft_X7_placeOf_26, ft_X7_placeOf_27, ft_X7_placeOf_28, ft_X7_placeOf_31, ft_X7_placeOf_33, ft_X7_placeOf_36, ft_X7_placeOf_37, ft_X7_placeOf_38, ft_X7_placeOf_41, ft_X7_placeOf_44, ft_X7_placeOf_45, fl_71_25, fl_71_24, al_86, en, hc, v1, nI_clamp (show j < 2 ^ 31 by omega), nI_1]
    by_cases g : C 86 j = p
    · rw [pick_t g] at hk
      simp only [g, not_true_eq_false, not_false_eq_true, true_implies, false_implies, implies_true, and_true, true_and, forall_const]
      exact hk
    · rw [pick_f g] at hk
      simp only [g, not_true_eq_false, not_false_eq_true, true_implies, false_implies, implies_true, and_true, true_and, forall_const]
      exact hk
theorem ok_X7_placeOf : jMeets Y_X7_placeOf S_X7_placeOf := by
  intro nb vs mem Q h
  obtain ⟨C, z, r, P, K, B, p, rfl, rfl, hr, s, iv, h15, hQ⟩ := h
  refine Ok.run OK_X7_placeOf [11] 40 [none, none] pn7 (Nat.le_of_ble_eq_true rfl) rfl ?_
  simp -implicitDefEqProofs only [jr_0, jr_1, jr_2, j_iconst, j_lconst, j_iload0, j_aload0, j_istore0, j_astore0, j_iinc0, j_iload1, j_aload1, j_istore1, j_astore1, j_iinc1, j_iload2, j_aload2, j_istore2, j_astore2, j_iinc2, j_iload3, j_aload3, j_istore3, j_astore3, j_iinc3, j_iload4, j_aload4, j_istore4, j_astore4, j_iinc4, j_iload5, j_aload5, j_istore5, j_astore5, j_iinc5, j_iload6, j_aload6, j_istore6, j_astore6, j_iinc6, j_iload7, j_aload7, j_istore7, j_astore7, j_iinc7, j_iload8, j_aload8, j_istore8, j_astore8, j_iinc8, j_iadd, j_isub, j_imul, j_iand, j_ior, j_ixor, j_ishl, j_ishr, j_iushr, j_idiv, j_irem, j_ineg, j_ladd, j_lmul, j_land, j_lor, j_lcmp, j_lushr, j_lshl, j_i2l, j_l2i, j_dupI, j_dupR, j_popI, j_dup2, j_ifeq, j_iceq, j_ifne, j_icne, j_iflt, j_iclt, j_ifge, j_icge, j_ifgt, j_icgt, j_ifle, j_icle, j_goto, j_tsw, j_sw0, j_sw1, j_ireturn, j_zreturn, j_lreturn, j_return, j_getfield, j_putI, j_putJ, j_putR, j_iaload, j_baload, j_iastore, j_bastore, j_aaload, j_q, j_aastore, j_acopy, j_mmin, j_mmax, j_mabs, j_objinit, j_new, j_newI, j_newQ, j_sld, j_slen, j_callV0, j_callI0, j_callS0, j_callV1, j_callI1, j_callS1, j_callV2, j_callI2, j_callS2, j_callV3, j_callS3, j_callV4, j_callS4, j_callV5, j_callS5, j_pushS, j_pushN, j_sh0, j_sh1, j_sh2, j_sh3, j_sh4, Int32.reduceAdd, Int32.reduceMul, Int32.reduceSub, Int32.reduceLT, Int32.reduceLE, eq_self, i32_10, i32_01, ne_eq, hrow_s, hrow_n, ne10, ne100, ne1000, ne7, ne4, ne14, ne9973, or_true, true_or, or_false, false_or, not_true_eq_false, not_false_eq_true, false_implies, implies_true, and_true, forall_const, true_implies, jargs_n, jargs_r, jargs_i, List.cons_append, List.nil_append, true_and, Nat.reduceEqDiff, reduceIte, ft_X7_placeOf_0, ft_X7_placeOf_1, ft_X7_placeOf_2, ft_X7_placeOf_5, ft_X7_placeOf_7, ft_X7_placeOf_8, ft_X7_placeOf_9, ft_X7_placeOf_11, ft_X7_placeOf_13, ft_X7_placeOf_14, ft_X7_placeOf_17, ft_X7_placeOf_20, ft_X7_placeOf_21, ft_X7_placeOf_24, ft_X7_placeOf_26, ft_X7_placeOf_27, ft_X7_placeOf_28, ft_X7_placeOf_31, ft_X7_placeOf_33, ft_X7_placeOf_36, ft_X7_placeOf_37, ft_X7_placeOf_38, ft_X7_placeOf_41, ft_X7_placeOf_44, ft_X7_placeOf_45, rc_71]
  refine s_X7_layOrder ⟨hr, s, Li.rf⟩ iv fun C' lo e a => ?_
  rw [h15] at e a
  simp -implicitDefEqProofs only [jr_0, jr_1, jr_2, j_iconst, j_lconst, j_iload0, j_aload0, j_istore0, j_astore0, j_iinc0, j_iload1, j_aload1, j_istore1, j_astore1, j_iinc1, j_iload2, j_aload2, j_istore2, j_astore2, j_iinc2, j_iload3, j_aload3, j_istore3, j_astore3, j_iinc3, j_iload4, j_aload4, j_istore4, j_astore4, j_iinc4, j_iload5, j_aload5, j_istore5, j_astore5, j_iinc5, j_iload6, j_aload6, j_istore6, j_astore6, j_iinc6, j_iload7, j_aload7, j_istore7, j_astore7, j_iinc7, j_iload8, j_aload8, j_istore8, j_astore8, j_iinc8, j_iadd, j_isub, j_imul, j_iand, j_ior, j_ixor, j_ishl, j_ishr, j_iushr, j_idiv, j_irem, j_ineg, j_ladd, j_lmul, j_land, j_lor, j_lcmp, j_lushr, j_lshl, j_i2l, j_l2i, j_dupI, j_dupR, j_popI, j_dup2, j_ifeq, j_iceq, j_ifne, j_icne, j_iflt, j_iclt, j_ifge, j_icge, j_ifgt, j_icgt, j_ifle, j_icle, j_goto, j_tsw, j_sw0, j_sw1, j_ireturn, j_zreturn, j_lreturn, j_return, j_getfield, j_putI, j_putJ, j_putR, j_iaload, j_baload, j_iastore, j_bastore, j_aaload, j_q, j_aastore, j_acopy, j_mmin, j_mmax, j_mabs, j_objinit, j_new, j_newI, j_newQ, j_sld, j_slen, j_callV0, j_callI0, j_callS0, j_callV1, j_callI1, j_callS1, j_callV2, j_callI2, j_callS2, j_callV3, j_callS3, j_callV4, j_callS4, j_callV5, j_callS5, j_pushS, j_pushN, j_sh0, j_sh1, j_sh2, j_sh3, j_sh4, Int32.reduceAdd, Int32.reduceMul, Int32.reduceSub, Int32.reduceLT, Int32.reduceLE, eq_self, i32_10, i32_01, ne_eq, hrow_s, hrow_n, ne10, ne100, ne1000, ne7, ne4, ne14, ne9973, or_true, true_or, or_false, false_or, not_true_eq_false, not_false_eq_true, false_implies, implies_true, and_true, forall_const, true_implies, jargs_n, jargs_r, jargs_i, List.cons_append, List.nil_append, true_and, Nat.reduceEqDiff, reduceIte, ft_X7_placeOf_0, ft_X7_placeOf_1, ft_X7_placeOf_2, ft_X7_placeOf_5, ft_X7_placeOf_7, ft_X7_placeOf_8, ft_X7_placeOf_9, ft_X7_placeOf_11, ft_X7_placeOf_13, ft_X7_placeOf_14, ft_X7_placeOf_17, ft_X7_placeOf_20, ft_X7_placeOf_21, ft_X7_placeOf_24, ft_X7_placeOf_26, ft_X7_placeOf_27, ft_X7_placeOf_28, ft_X7_placeOf_31, ft_X7_placeOf_33, ft_X7_placeOf_36, ft_X7_placeOf_37, ft_X7_placeOf_38, ft_X7_placeOf_41, ft_X7_placeOf_44, ft_X7_placeOf_45]
  exact lp_X7_placeOf (n := (ordR (C 5) (C r) 15).2) (ordF_le 4) e (by rw [plF_idx a]; exact hQ C' lo) _ 0 (Nat.zero_add _)
theorem s_X7_placeOf {nb r P K B : Nat} {C : Nat → Nat → Int32} {z : Nat → Int64} {p : Int32} {Q : jQ} (hr : jMr r) (s : SR C P K) (iv : Inv P K B (C r)) (h15 : C 71 22 = 15) (hQ : ∀ C', Lo r C C' → Q (some (.int (idxR (C 5) (C r) p))) (memS 94 C' z)) : S_X7_placeOf nb [.ref 71, .ref r, .int p] (memS 94 C z) Q := ⟨C, z, r, P, K, B, p, rfl, rfl, hr, s, iv, h15, hQ⟩
/-! where a car stands -/
noncomputable def poF (ρ : Nat → Int32) (c : Int32) : Nat → Int32
  | 0 => -9
  | j + 1 => pick (ρ (0 + j) = c) (nI j) (poF ρ c j)
theorem poF_4 {P K B : Nat} {ρ : Nat → Int32} {c : Int32} (h : Inv P K B ρ) (hc : ¬ c = -9) : poF ρ c 4 = postOfF ρ c := by
  have d : ∀ p q, p < 4 → q < 4 → ρ p = c → ρ q = c → p = q := fun p q hp hq e1 e2 => by
    rcases h.dis hp hq (e1.trans e2.symm) with g | g
    · exact g
    · exact absurd (e1.symm.trans g) hc
  show pick (ρ 3 = c) 3 (pick (ρ 2 = c) 2 (pick (ρ 1 = c) 1 (pick (ρ 0 = c) 0 (-9)))) = _
  unfold postOfF
  by_cases g0 : ρ 0 = c
  · have n1 : ¬ ρ 1 = c := fun q => absurd (d 0 1 (by omega) (by omega) g0 q) (by decide)
    have n2 : ¬ ρ 2 = c := fun q => absurd (d 0 2 (by omega) (by omega) g0 q) (by decide)
    have n3 : ¬ ρ 3 = c := fun q => absurd (d 0 3 (by omega) (by omega) g0 q) (by decide)
    rw [if_pos g0, pick_f n3, pick_f n2, pick_f n1, pick_t g0]
  · rw [if_neg g0, pick_f (c := ρ 0 = c) g0]
    by_cases g1 : ρ 1 = c
    · have n2 : ¬ ρ 2 = c := fun q => absurd (d 1 2 (by omega) (by omega) g1 q) (by decide)
      have n3 : ¬ ρ 3 = c := fun q => absurd (d 1 3 (by omega) (by omega) g1 q) (by decide)
      rw [if_pos g1, pick_f n3, pick_f n2, pick_t g1]
    · rw [if_neg g1, pick_f (c := ρ 1 = c) g1]
      by_cases g2 : ρ 2 = c
      · have n3 : ¬ ρ 3 = c := fun q => absurd (d 2 3 (by omega) (by omega) g2 q) (by decide)
        rw [if_pos g2, pick_f n3, pick_t g2]
      · rw [if_neg g2, pick_f (c := ρ 2 = c) g2]
        by_cases g3 : ρ 3 = c
        · rw [if_pos g3, pick_t g3]
        · rw [if_neg g3, pick_f g3]
def S_X7_postOf : jSp := fun _ vs mem Q => ∃ C z r P K B, ∃ c : Int32, vs = [.ref r, .int c] ∧ mem = memS 94 C z ∧ jMr r ∧ Inv P K B (C r) ∧ ¬ c = -9 ∧ Q (some (.int (postOfF (C r) c))) (memS 94 C z)
def F_X7_postOf_0 : Nat → jT := fun pc => (bif Nat.blt pc 6 then (bif Nat.blt pc 3 then (bif Nat.blt pc 2 then (bif Nat.beq pc 0 then J_iconst (-9) 2 else jbad) else (bif Nat.beq pc 2 then J_istore 2 3 else jbad)) else (bif Nat.blt pc 4 then (bif Nat.beq pc 3 then J_iconst 0 4 else jbad) else (bif Nat.blt pc 5 then (bif Nat.beq pc 4 then J_istore 3 5 else jbad) else (bif Nat.beq pc 5 then J_iload 3 6 else jbad)))) else (bif Nat.blt pc 11 then (bif Nat.blt pc 7 then (bif Nat.beq pc 6 then J_iconst 4 7 else jbad) else (bif Nat.blt pc 10 then (bif Nat.beq pc 7 then J_icge 31 10 else jbad) else (bif Nat.beq pc 10 then J_aload 0 11 else jbad))) else (bif Nat.blt pc 12 then (bif Nat.beq pc 11 then J_iconst 0 12 else jbad) else (bif Nat.blt pc 13 then (bif Nat.beq pc 12 then J_iload 3 13 else jbad) else (bif Nat.beq pc 13 then J_iadd 14 else jbad)))))
theorem ftl_X7_postOf_0 : F_X7_postOf_0 0 = J_iconst (-9) 2 := rfl
theorem ftl_X7_postOf_2 : F_X7_postOf_0 2 = J_istore 2 3 := rfl
theorem ftl_X7_postOf_3 : F_X7_postOf_0 3 = J_iconst 0 4 := rfl
theorem ftl_X7_postOf_4 : F_X7_postOf_0 4 = J_istore 3 5 := rfl
theorem ftl_X7_postOf_5 : F_X7_postOf_0 5 = J_iload 3 6 := rfl
theorem ftl_X7_postOf_6 : F_X7_postOf_0 6 = J_iconst 4 7 := rfl
theorem ftl_X7_postOf_7 : F_X7_postOf_0 7 = J_icge 31 10 := rfl
theorem ftl_X7_postOf_10 : F_X7_postOf_0 10 = J_aload 0 11 := rfl
theorem ftl_X7_postOf_11 : F_X7_postOf_0 11 = J_iconst 0 12 := rfl
theorem ftl_X7_postOf_12 : F_X7_postOf_0 12 = J_iload 3 13 := rfl
theorem ftl_X7_postOf_13 : F_X7_postOf_0 13 = J_iadd 14 := rfl
theorem F_X7_postOf_0_ok : jOK Y_X7_postOf none (F_X7_postOf_0) := (jOK_node (jOK_node (jOK_node (jOK_leaf (sn_bipush dX7_postOf_0 rfl rfl)) (jOK_leaf (sn_istore_n dX7_postOf_2 rfl rfl (by decide)))) (jOK_node (jOK_leaf (sn_iconst dX7_postOf_3 rfl rfl)) (jOK_node (jOK_leaf (sn_istore_n dX7_postOf_4 rfl rfl (by decide))) (jOK_leaf (sn_iload_n dX7_postOf_5 rfl rfl))))) (jOK_node (jOK_node (jOK_leaf (sn_iconst dX7_postOf_6 rfl rfl)) (jOK_node (jOK_leaf (sn_icge dX7_postOf_7 rfl rfl)) (jOK_leaf (sn_aload_n dX7_postOf_10 rfl rfl)))) (jOK_node (jOK_leaf (sn_iconst dX7_postOf_11 rfl rfl)) (jOK_node (jOK_leaf (sn_iload_n dX7_postOf_12 rfl rfl)) (jOK_leaf (sn_iadd dX7_postOf_13 rfl))))))
def F_X7_postOf_14 : Nat → jT := fun pc => (bif Nat.blt pc 23 then (bif Nat.blt pc 16 then (bif Nat.blt pc 15 then (bif Nat.beq pc 14 then J_iaload 15 else jbad) else (bif Nat.beq pc 15 then J_iload 1 16 else jbad)) else (bif Nat.blt pc 19 then (bif Nat.beq pc 16 then J_icne 23 19 else jbad) else (bif Nat.blt pc 20 then (bif Nat.beq pc 19 then J_iload 3 20 else jbad) else (bif Nat.beq pc 20 then J_goto 24 else jbad)))) else (bif Nat.blt pc 28 then (bif Nat.blt pc 24 then (bif Nat.beq pc 23 then J_iload 2 24 else jbad) else (bif Nat.blt pc 25 then (bif Nat.beq pc 24 then J_istore 2 25 else jbad) else (bif Nat.beq pc 25 then J_iinc 3 1 28 else jbad))) else (bif Nat.blt pc 31 then (bif Nat.beq pc 28 then J_goto 5 else jbad) else (bif Nat.blt pc 32 then (bif Nat.beq pc 31 then J_iload 2 32 else jbad) else (bif Nat.beq pc 32 then J_ireturn 0 0 else jbad)))))
theorem ftl_X7_postOf_14 : F_X7_postOf_14 14 = J_iaload 15 := rfl
theorem ftl_X7_postOf_15 : F_X7_postOf_14 15 = J_iload 1 16 := rfl
theorem ftl_X7_postOf_16 : F_X7_postOf_14 16 = J_icne 23 19 := rfl
theorem ftl_X7_postOf_19 : F_X7_postOf_14 19 = J_iload 3 20 := rfl
theorem ftl_X7_postOf_20 : F_X7_postOf_14 20 = J_goto 24 := rfl
theorem ftl_X7_postOf_23 : F_X7_postOf_14 23 = J_iload 2 24 := rfl
theorem ftl_X7_postOf_24 : F_X7_postOf_14 24 = J_istore 2 25 := rfl
theorem ftl_X7_postOf_25 : F_X7_postOf_14 25 = J_iinc 3 1 28 := rfl
theorem ftl_X7_postOf_28 : F_X7_postOf_14 28 = J_goto 5 := rfl
theorem ftl_X7_postOf_31 : F_X7_postOf_14 31 = J_iload 2 32 := rfl
theorem ftl_X7_postOf_32 : F_X7_postOf_14 32 = J_ireturn 0 0 := rfl
theorem F_X7_postOf_14_ok : jOK Y_X7_postOf none (F_X7_postOf_14) := (jOK_node (jOK_node (jOK_node (jOK_leaf (sn_iaload dX7_postOf_14 rfl)) (jOK_leaf (sn_iload_n dX7_postOf_15 rfl rfl))) (jOK_node (jOK_leaf (sn_icne dX7_postOf_16 rfl rfl)) (jOK_node (jOK_leaf (sn_iload_n dX7_postOf_19 rfl rfl)) (jOK_leaf (sn_goto dX7_postOf_20 rfl))))) (jOK_node (jOK_node (jOK_leaf (sn_iload_n dX7_postOf_23 rfl rfl)) (jOK_node (jOK_leaf (sn_istore_n dX7_postOf_24 rfl rfl (by decide))) (jOK_leaf (sn_iinc dX7_postOf_25 rfl rfl (by decide))))) (jOK_node (jOK_leaf (sn_goto dX7_postOf_28 rfl)) (jOK_node (jOK_leaf (sn_iload_n dX7_postOf_31 rfl rfl)) (jOK_leaf (sn_ireturn dX7_postOf_32 rfl rfl))))))
def F_X7_postOf_0_32 : Nat → jT := fun pc => bif Nat.blt pc 14 then F_X7_postOf_0 pc else F_X7_postOf_14 pc
theorem F_X7_postOf_0_32_l {pc : Nat} (h : Nat.blt pc 14 = true) : F_X7_postOf_0_32 pc = F_X7_postOf_0 pc := by unfold F_X7_postOf_0_32; rw [h]; rfl
theorem F_X7_postOf_0_32_r {pc : Nat} (h : Nat.blt pc 14 = false) : F_X7_postOf_0_32 pc = F_X7_postOf_14 pc := by unfold F_X7_postOf_0_32; rw [h]; rfl
theorem F_X7_postOf_0_32_ok : jOK Y_X7_postOf none (F_X7_postOf_0_32) := jOK_node (F_X7_postOf_0_ok) (F_X7_postOf_14_ok)
def F_X7_postOf : Nat → jT := F_X7_postOf_0_32
theorem OK_X7_postOf : jOK Y_X7_postOf none (F_X7_postOf) := F_X7_postOf_0_32_ok
theorem ft_X7_postOf_0 : F_X7_postOf 0 = J_iconst (-9) 2 := (F_X7_postOf_0_32_l rfl).trans (ftl_X7_postOf_0)
theorem ft_X7_postOf_2 : F_X7_postOf 2 = J_istore 2 3 := (F_X7_postOf_0_32_l rfl).trans (ftl_X7_postOf_2)
theorem ft_X7_postOf_3 : F_X7_postOf 3 = J_iconst 0 4 := (F_X7_postOf_0_32_l rfl).trans (ftl_X7_postOf_3)
theorem ft_X7_postOf_4 : F_X7_postOf 4 = J_istore 3 5 := (F_X7_postOf_0_32_l rfl).trans (ftl_X7_postOf_4)
theorem ft_X7_postOf_5 : F_X7_postOf 5 = J_iload 3 6 := (F_X7_postOf_0_32_l rfl).trans (ftl_X7_postOf_5)
theorem ft_X7_postOf_6 : F_X7_postOf 6 = J_iconst 4 7 := (F_X7_postOf_0_32_l rfl).trans (ftl_X7_postOf_6)
theorem ft_X7_postOf_7 : F_X7_postOf 7 = J_icge 31 10 := (F_X7_postOf_0_32_l rfl).trans (ftl_X7_postOf_7)
theorem ft_X7_postOf_10 : F_X7_postOf 10 = J_aload 0 11 := (F_X7_postOf_0_32_l rfl).trans (ftl_X7_postOf_10)
theorem ft_X7_postOf_11 : F_X7_postOf 11 = J_iconst 0 12 := (F_X7_postOf_0_32_l rfl).trans (ftl_X7_postOf_11)
theorem ft_X7_postOf_12 : F_X7_postOf 12 = J_iload 3 13 := (F_X7_postOf_0_32_l rfl).trans (ftl_X7_postOf_12)
theorem ft_X7_postOf_13 : F_X7_postOf 13 = J_iadd 14 := (F_X7_postOf_0_32_l rfl).trans (ftl_X7_postOf_13)
theorem ft_X7_postOf_14 : F_X7_postOf 14 = J_iaload 15 := (F_X7_postOf_0_32_r rfl).trans (ftl_X7_postOf_14)
theorem ft_X7_postOf_15 : F_X7_postOf 15 = J_iload 1 16 := (F_X7_postOf_0_32_r rfl).trans (ftl_X7_postOf_15)
theorem ft_X7_postOf_16 : F_X7_postOf 16 = J_icne 23 19 := (F_X7_postOf_0_32_r rfl).trans (ftl_X7_postOf_16)
theorem ft_X7_postOf_19 : F_X7_postOf 19 = J_iload 3 20 := (F_X7_postOf_0_32_r rfl).trans (ftl_X7_postOf_19)
theorem ft_X7_postOf_20 : F_X7_postOf 20 = J_goto 24 := (F_X7_postOf_0_32_r rfl).trans (ftl_X7_postOf_20)
theorem ft_X7_postOf_23 : F_X7_postOf 23 = J_iload 2 24 := (F_X7_postOf_0_32_r rfl).trans (ftl_X7_postOf_23)
theorem ft_X7_postOf_24 : F_X7_postOf 24 = J_istore 2 25 := (F_X7_postOf_0_32_r rfl).trans (ftl_X7_postOf_24)
theorem ft_X7_postOf_25 : F_X7_postOf 25 = J_iinc 3 1 28 := (F_X7_postOf_0_32_r rfl).trans (ftl_X7_postOf_25)
theorem ft_X7_postOf_28 : F_X7_postOf 28 = J_goto 5 := (F_X7_postOf_0_32_r rfl).trans (ftl_X7_postOf_28)
theorem ft_X7_postOf_31 : F_X7_postOf 31 = J_iload 2 32 := (F_X7_postOf_0_32_r rfl).trans (ftl_X7_postOf_31)
theorem ft_X7_postOf_32 : F_X7_postOf 32 = J_ireturn 0 0 := (F_X7_postOf_0_32_r rfl).trans (ftl_X7_postOf_32)
theorem lp_X7_postOf {Q : jQ} {C : Nat → Nat → Int32} {z : Nat → Int64} {nb r : Nat} {c : Int32} (hr : jMr r) (h : Q (some (.int (poF (C r) c 4))) (memS 94 C z)) :
    ∀ k j, j + k = 4 → Rn Y_X7_postOf none Q 5 [some (.ref r), some (.int c), some (.int (poF (C r) c j)), some (.int (nI j))] [] (memS 94 C z) (nb, 0, 0) := by
  intro k
  induction k with
  | zero =>
    intro j hj
    have hj : j = 4 := by omega
    subst hj
    have hc : (4 ≤ nI 4) = True := eq_true (by decide)
    refine jrun_first OK_X7_postOf (C := [5]) 60 ?_
    simp -implicitDefEqProofs only [jr_0, jr_1, jr_2, j_iconst, j_lconst, j_iload0, j_aload0, j_istore0, j_astore0, j_iinc0, j_iload1, j_aload1, j_istore1, j_astore1, j_iinc1, j_iload2, j_aload2, j_istore2, j_astore2, j_iinc2, j_iload3, j_aload3, j_istore3, j_astore3, j_iinc3, j_iload4, j_aload4, j_istore4, j_astore4, j_iinc4, j_iload5, j_aload5, j_istore5, j_astore5, j_iinc5, j_iload6, j_aload6, j_istore6, j_astore6, j_iinc6, j_iload7, j_aload7, j_istore7, j_astore7, j_iinc7, j_iload8, j_aload8, j_istore8, j_astore8, j_iinc8, j_iadd, j_isub, j_imul, j_iand, j_ior, j_ixor, j_ishl, j_ishr, j_iushr, j_idiv, j_irem, j_ineg, j_ladd, j_lmul, j_land, j_lor, j_lcmp, j_lushr, j_lshl, j_i2l, j_l2i, j_dupI, j_dupR, j_popI, j_dup2, j_ifeq, j_iceq, j_ifne, j_icne, j_iflt, j_iclt, j_ifge, j_icge, j_ifgt, j_icgt, j_ifle, j_icle, j_goto, j_tsw, j_sw0, j_sw1, j_ireturn, j_zreturn, j_lreturn, j_return, j_getfield, j_putI, j_putJ, j_putR, j_iaload, j_baload, j_iastore, j_bastore, j_aaload, j_q, j_aastore, j_acopy, j_mmin, j_mmax, j_mabs, j_objinit, j_new, j_newI, j_newQ, j_sld, j_slen, j_callV0, j_callI0, j_callS0, j_callV1, j_callI1, j_callS1, j_callV2, j_callI2, j_callS2, j_callV3, j_callS3, j_callV4, j_callS4, j_callV5, j_callS5, j_pushS, j_pushN, j_sh0, j_sh1, j_sh2, j_sh3, j_sh4, Int32.reduceAdd, Int32.reduceMul, Int32.reduceSub, Int32.reduceLT, Int32.reduceLE, eq_self, i32_10, i32_01, ne_eq, hrow_s, hrow_n, ne10, ne100, ne1000, ne7, ne4, ne14, ne9973, or_true, true_or, or_false, false_or, not_true_eq_false, not_false_eq_true, false_implies, implies_true, and_true, forall_const, true_implies, jargs_n, jargs_r, jargs_i, List.cons_append, List.nil_append, true_and, Nat.reduceEqDiff, reduceIte, ft_X7_postOf_0, ft_X7_postOf_2, ft_X7_postOf_3, ft_X7_postOf_4, ft_X7_postOf_5, ft_X7_postOf_6, ft_X7_postOf_7, ft_X7_postOf_10, ft_X7_postOf_11, ft_X7_postOf_12, ft_X7_postOf_13, ft_X7_postOf_14, ft_X7_postOf_15, ft_X7_postOf_16, ft_X7_postOf_19, ft_X7_postOf_20, ft_X7_postOf_23, ft_X7_postOf_24, ft_X7_postOf_25, ft_X7_postOf_28, ft_X7_postOf_31, ft_X7_postOf_32, hc]
    exact h
  | succ k ih =>
    intro j hj
    have hc : (4 ≤ nI j) = False := eq_false (nI_ge (b := 4) (by omega) (by decide))
    have hk := ih (j + 1) (by omega)
    unfold poF at hk
    rw [Nat.zero_add] at hk
    refine jrun_first OK_X7_postOf (C := [5]) 60 ?_
    simp -implicitDefEqProofs only [jr_0, jr_1, jr_2, j_iconst, j_lconst, j_iload0, j_aload0, j_istore0, j_astore0, j_iinc0, j_iload1, j_aload1, j_istore1, j_astore1, j_iinc1, j_iload2, j_aload2, j_istore2, j_astore2, j_iinc2, j_iload3, j_aload3, j_istore3, j_astore3, j_iinc3, j_iload4, j_aload4, j_istore4, j_astore4, j_iinc4, j_iload5, j_aload5, j_istore5, j_astore5, j_iinc5, j_iload6, j_aload6, j_istore6, j_astore6, j_iinc6, j_iload7, j_aload7, j_istore7, j_astore7, j_iinc7, j_iload8, j_aload8, j_istore8, j_astore8, j_iinc8, j_iadd, j_isub, j_imul, j_iand, j_ior, j_ixor, j_ishl, j_ishr, j_iushr, j_idiv, j_irem, j_ineg, j_ladd, j_lmul, j_land, j_lor, j_lcmp, j_lushr, j_lshl, j_i2l, j_l2i, j_dupI, j_dupR, j_popI, j_dup2, j_ifeq, j_iceq, j_ifne, j_icne, j_iflt, j_iclt, j_ifge, j_icge, j_ifgt, j_icgt, j_ifle, j_icle, j_goto, j_tsw, j_sw0, j_sw1, j_ireturn, j_zreturn, j_lreturn, j_return, j_getfield, j_putI, j_putJ, j_putR, j_iaload, j_baload, j_iastore, j_bastore, j_aaload, j_q, j_aastore, j_acopy, j_mmin, j_mmax, j_mabs, j_objinit, j_new, j_newI, j_newQ, j_sld, j_slen, j_callV0, j_callI0, j_callS0, j_callV1, j_callI1, j_callS1, j_callV2, j_callI2, j_callS2, j_callV3, j_callS3, j_callV4, j_callS4, j_callV5, j_callS5, j_pushS, j_pushN, j_sh0, j_sh1, j_sh2, j_sh3, j_sh4, Int32.reduceAdd, Int32.reduceMul, Int32.reduceSub, Int32.reduceLT, Int32.reduceLE, eq_self, i32_10, i32_01, ne_eq, hrow_s, hrow_n, ne10, ne100, ne1000, ne7, ne4, ne14, ne9973, or_true, true_or, or_false, false_or, not_true_eq_false, not_false_eq_true, false_implies, implies_true, and_true, forall_const, true_implies, jargs_n, jargs_r, jargs_i, List.cons_append, List.nil_append, true_and, Nat.reduceEqDiff, reduceIte, ft_X7_postOf_0, ft_X7_postOf_2, ft_X7_postOf_3, ft_X7_postOf_4, ft_X7_postOf_5, ft_X7_postOf_6, ft_X7_postOf_7, ft_X7_postOf_10, ft_X7_postOf_11, ft_X7_postOf_12, ft_X7_postOf_13, ft_X7_postOf_14, ft_X7_postOf_15, ft_X7_postOf_16, ft_X7_postOf_19, ft_X7_postOf_20, ft_X7_postOf_23, ft_X7_postOf_24, ft_X7_postOf_25, ft_X7_postOf_28, ft_X7_postOf_31, ft_X7_postOf_32, hc, ar_0 hr (show j < 4 by omega), nI_1]
    by_cases g : C r j = c
    · rw [pick_t g] at hk
      simp only [g, not_true_eq_false, not_false_eq_true, true_implies, false_implies, implies_true, and_true, true_and, forall_const]
      exact hk
    · rw [pick_f g] at hk
      simp only [g, not_true_eq_false, not_false_eq_true, true_implies, false_implies, implies_true, and_true, true_and, forall_const]
      exact hk
theorem ok_X7_postOf : jMeets Y_X7_postOf S_X7_postOf := by
  intro nb vs mem Q h
  obtain ⟨C, z, r, P, K, B, c, rfl, rfl, hr, iv, hc, hQ⟩ := h
  refine Ok.run OK_X7_postOf [5] 40 [none, none] pn7 (Nat.le_of_ble_eq_true rfl) rfl ?_
  simp -implicitDefEqProofs only [jr_0, jr_1, jr_2, j_iconst, j_lconst, j_iload0, j_aload0, j_istore0, j_astore0, j_iinc0, j_iload1, j_aload1, j_istore1, j_astore1, j_iinc1, j_iload2, j_aload2, j_istore2, j_astore2, j_iinc2, j_iload3, j_aload3, j_istore3, j_astore3, j_iinc3, j_iload4, j_aload4, j_istore4, j_astore4, j_iinc4, j_iload5, j_aload5, j_istore5, j_astore5, j_iinc5, j_iload6, j_aload6, j_istore6, j_astore6, j_iinc6, j_iload7, j_aload7, j_istore7, j_astore7, j_iinc7, j_iload8, j_aload8, j_istore8, j_astore8, j_iinc8, j_iadd, j_isub, j_imul, j_iand, j_ior, j_ixor, j_ishl, j_ishr, j_iushr, j_idiv, j_irem, j_ineg, j_ladd, j_lmul, j_land, j_lor, j_lcmp, j_lushr, j_lshl, j_i2l, j_l2i, j_dupI, j_dupR, j_popI, j_dup2, j_ifeq, j_iceq, j_ifne, j_icne, j_iflt, j_iclt, j_ifge, j_icge, j_ifgt, j_icgt, j_ifle, j_icle, j_goto, j_tsw, j_sw0, j_sw1, j_ireturn, j_zreturn, j_lreturn, j_return, j_getfield, j_putI, j_putJ, j_putR, j_iaload, j_baload, j_iastore, j_bastore, j_aaload, j_q, j_aastore, j_acopy, j_mmin, j_mmax, j_mabs, j_objinit, j_new, j_newI, j_newQ, j_sld, j_slen, j_callV0, j_callI0, j_callS0, j_callV1, j_callI1, j_callS1, j_callV2, j_callI2, j_callS2, j_callV3, j_callS3, j_callV4, j_callS4, j_callV5, j_callS5, j_pushS, j_pushN, j_sh0, j_sh1, j_sh2, j_sh3, j_sh4, Int32.reduceAdd, Int32.reduceMul, Int32.reduceSub, Int32.reduceLT, Int32.reduceLE, eq_self, i32_10, i32_01, ne_eq, hrow_s, hrow_n, ne10, ne100, ne1000, ne7, ne4, ne14, ne9973, or_true, true_or, or_false, false_or, not_true_eq_false, not_false_eq_true, false_implies, implies_true, and_true, forall_const, true_implies, jargs_n, jargs_r, jargs_i, List.cons_append, List.nil_append, true_and, Nat.reduceEqDiff, reduceIte, ft_X7_postOf_0, ft_X7_postOf_2, ft_X7_postOf_3, ft_X7_postOf_4, ft_X7_postOf_5, ft_X7_postOf_6, ft_X7_postOf_7, ft_X7_postOf_10, ft_X7_postOf_11, ft_X7_postOf_12, ft_X7_postOf_13, ft_X7_postOf_14, ft_X7_postOf_15, ft_X7_postOf_16, ft_X7_postOf_19, ft_X7_postOf_20, ft_X7_postOf_23, ft_X7_postOf_24, ft_X7_postOf_25, ft_X7_postOf_28, ft_X7_postOf_31, ft_X7_postOf_32]
  exact lp_X7_postOf hr (by rw [poF_4 iv hc]; exact hQ) 4 0 (by omega)
theorem s_X7_postOf {nb r P K B : Nat} {C : Nat → Nat → Int32} {z : Nat → Int64} {c : Int32} {Q : jQ} (hr : jMr r) (iv : Inv P K B (C r)) (hc : ¬ c = -9) (hQ : Q (some (.int (postOfF (C r) c))) (memS 94 C z)) : S_X7_postOf nb [.ref r, .int c] (memS 94 C z) Q := ⟨C, z, r, P, K, B, c, rfl, rfl, hr, iv, hc, hQ⟩
