/-! both sides' acts -/
theorem Li_19 : Li (-1) (-9) := fun c hc => by
  have h1 : ¬ nI c = -1 := fun q => by
    have := congrArg Int32.toInt q
    rw [nI_toInt (by omega)] at this
    have e : (-1 : Int32).toInt = -1 := by decide
    omega
  simp [h1, nI_n9 (show c < 2 ^ 31 by omega)]
theorem Ta_15 : Ta 15 0 := fun p hp => by
  have : p = 0 ∨ p = 1 ∨ p = 2 ∨ p = 3 := by omega
  rcases this with rfl | rfl | rfl | rfl <;> unfold hasP <;> decide
theorem Ta_0 : Ta 0 15 := fun p hp => by
  have : p = 0 ∨ p = 1 ∨ p = 2 ∨ p = 3 := by omega
  rcases this with rfl | rfl | rfl | rfl <;> unfold hasP <;> decide
theorem nn_nI {a : Nat} (h : a < 2 ^ 31) : ¬ nI a < 0 := nI_pos h
/-! minute -/
def S_X7_minute : jSp := fun _ vs mem Q => ∃ C C0 z P K nx ct B, ∃ x : Int32, vs = [.ref 71, .int x] ∧ mem = memS 94 C z ∧ Bf C0 C P K nx ct ∧ SR C0 P K ∧ (C0 71 22 = 15 ∧ C0 71 23 = -9) ∧ Inv P K B (C0 9) ∧ B + 8000 < 2 ^ 28 ∧ (1 ≤ x ∧ x ≤ 99 → ∀ C2 C3, Noted C C2 nx ct → Mo 78 C2 C3 → C3 78 = goF C0 15 15 (-1) x.toNatClampNeg (C0 9) → Q (some (.int (metersF (goF C0 15 15 (-1) x.toNatClampNeg (C0 9))))) (memS 94 C3 z)) ∧ (¬ (1 ≤ x ∧ x ≤ 99) → Q (some (.int (-2))) (memS 94 C z))
def F_X7_minute_0 : Nat → jT := fun pc => (bif Nat.blt pc 12 then (bif Nat.blt pc 4 then (bif Nat.blt pc 1 then (bif Nat.beq pc 0 then J_iload 1 1 else jbad) else (bif Nat.blt pc 2 then (bif Nat.beq pc 1 then J_iconst 1 2 else jbad) else (bif Nat.beq pc 2 then J_iconst 99 4 else jbad))) else (bif Nat.blt pc 7 then (bif Nat.beq pc 4 then J_callS S_X7_in 3 7 else jbad) else (bif Nat.blt pc 10 then (bif Nat.beq pc 7 then J_ifne 13 10 else jbad) else (bif Nat.beq pc 10 then J_iconst (-2) 12 else jbad)))) else (bif Nat.blt pc 17 then (bif Nat.blt pc 13 then (bif Nat.beq pc 12 then J_ireturn 0 0 else jbad) else (bif Nat.blt pc 14 then (bif Nat.beq pc 13 then J_aload 0 14 else jbad) else (bif Nat.beq pc 14 then J_callV 7 S_X7_note 0 17 else jbad))) else (bif Nat.blt pc 19 then (bif Nat.blt pc 18 then (bif Nat.beq pc 17 then J_iconst 0 18 else jbad) else (bif Nat.beq pc 18 then J_istore 2 19 else jbad)) else (bif Nat.blt pc 20 then (bif Nat.beq pc 19 then J_iload 2 20 else jbad) else (bif Nat.beq pc 20 then J_iload 1 21 else jbad)))))
theorem ftl_X7_minute_0 : F_X7_minute_0 0 = J_iload 1 1 := rfl
theorem ftl_X7_minute_1 : F_X7_minute_0 1 = J_iconst 1 2 := rfl
theorem ftl_X7_minute_2 : F_X7_minute_0 2 = J_iconst 99 4 := rfl
theorem ftl_X7_minute_4 : F_X7_minute_0 4 = J_callS S_X7_in 3 7 := rfl
theorem ftl_X7_minute_7 : F_X7_minute_0 7 = J_ifne 13 10 := rfl
theorem ftl_X7_minute_10 : F_X7_minute_0 10 = J_iconst (-2) 12 := rfl
theorem ftl_X7_minute_12 : F_X7_minute_0 12 = J_ireturn 0 0 := rfl
theorem ftl_X7_minute_13 : F_X7_minute_0 13 = J_aload 0 14 := rfl
theorem ftl_X7_minute_14 : F_X7_minute_0 14 = J_callV 7 S_X7_note 0 17 := rfl
theorem ftl_X7_minute_17 : F_X7_minute_0 17 = J_iconst 0 18 := rfl
theorem ftl_X7_minute_18 : F_X7_minute_0 18 = J_istore 2 19 := rfl
theorem ftl_X7_minute_19 : F_X7_minute_0 19 = J_iload 2 20 := rfl
theorem ftl_X7_minute_20 : F_X7_minute_0 20 = J_iload 1 21 := rfl
theorem F_X7_minute_0_ok : jOK Y_X7_minute none (F_X7_minute_0) := (jOK_node (jOK_node (jOK_node (jOK_leaf (sn_iload_n dX7_minute_0 rfl rfl)) (jOK_node (jOK_leaf (sn_iconst dX7_minute_1 rfl rfl)) (jOK_leaf (sn_bipush dX7_minute_2 rfl rfl)))) (jOK_node (jOK_leaf (sn_callS (Y' := Y_X7_in) ok_X7_in dX7_minute_4 rfl rfl tw_737 tw_738 tw_8 jc_X7_in ⟨by decide, by decide, rfl⟩ ⟨by decide, by decide⟩)) (jOK_node (jOK_leaf (sn_ifne dX7_minute_7 rfl rfl)) (jOK_leaf (sn_bipush dX7_minute_10 rfl rfl))))) (jOK_node (jOK_node (jOK_leaf (sn_ireturn dX7_minute_12 rfl rfl)) (jOK_node (jOK_leaf (sn_aload_n dX7_minute_13 rfl rfl)) (jOK_leaf (sn_callV (Y' := Y_X7_note) ok_X7_note dX7_minute_14 rfl rfl rfl tw_826 tw_828 tp_39 tw_8 jc_X7_note rfl ⟨by decide, by decide, rfl⟩ ⟨by decide, by decide⟩)))) (jOK_node (jOK_node (jOK_leaf (sn_iconst dX7_minute_17 rfl rfl)) (jOK_leaf (sn_istore_n dX7_minute_18 rfl rfl (by decide)))) (jOK_node (jOK_leaf (sn_iload_n dX7_minute_19 rfl rfl)) (jOK_leaf (sn_iload_n dX7_minute_20 rfl rfl))))))
def F_X7_minute_21 : Nat → jT := fun pc => (bif Nat.blt pc 33 then (bif Nat.blt pc 26 then (bif Nat.blt pc 24 then (bif Nat.beq pc 21 then J_icge 39 24 else jbad) else (bif Nat.blt pc 25 then (bif Nat.beq pc 24 then J_aload 0 25 else jbad) else (bif Nat.beq pc 25 then J_aload 0 26 else jbad))) else (bif Nat.blt pc 29 then (bif Nat.beq pc 26 then J_getfield 7 10 29 else jbad) else (bif Nat.blt pc 30 then (bif Nat.beq pc 29 then J_iconst 0 30 else jbad) else (bif Nat.beq pc 30 then J_callV 7 S_X7_minuteOn 2 33 else jbad)))) else (bif Nat.blt pc 40 then (bif Nat.blt pc 36 then (bif Nat.beq pc 33 then J_iinc 2 1 36 else jbad) else (bif Nat.blt pc 39 then (bif Nat.beq pc 36 then J_goto 19 else jbad) else (bif Nat.beq pc 39 then J_aload 0 40 else jbad))) else (bif Nat.blt pc 44 then (bif Nat.blt pc 41 then (bif Nat.beq pc 40 then J_aload 0 41 else jbad) else (bif Nat.beq pc 41 then J_getfield 7 10 44 else jbad)) else (bif Nat.blt pc 47 then (bif Nat.beq pc 44 then J_callV 7 S_X7_meters 1 47 else jbad) else (bif Nat.beq pc 47 then J_ireturn 0 0 else jbad)))))
theorem ftl_X7_minute_21 : F_X7_minute_21 21 = J_icge 39 24 := rfl
theorem ftl_X7_minute_24 : F_X7_minute_21 24 = J_aload 0 25 := rfl
theorem ftl_X7_minute_25 : F_X7_minute_21 25 = J_aload 0 26 := rfl
theorem ftl_X7_minute_26 : F_X7_minute_21 26 = J_getfield 7 10 29 := rfl
theorem ftl_X7_minute_29 : F_X7_minute_21 29 = J_iconst 0 30 := rfl
theorem ftl_X7_minute_30 : F_X7_minute_21 30 = J_callV 7 S_X7_minuteOn 2 33 := rfl
theorem ftl_X7_minute_33 : F_X7_minute_21 33 = J_iinc 2 1 36 := rfl
theorem ftl_X7_minute_36 : F_X7_minute_21 36 = J_goto 19 := rfl
theorem ftl_X7_minute_39 : F_X7_minute_21 39 = J_aload 0 40 := rfl
theorem ftl_X7_minute_40 : F_X7_minute_21 40 = J_aload 0 41 := rfl
theorem ftl_X7_minute_41 : F_X7_minute_21 41 = J_getfield 7 10 44 := rfl
theorem ftl_X7_minute_44 : F_X7_minute_21 44 = J_callV 7 S_X7_meters 1 47 := rfl
theorem ftl_X7_minute_47 : F_X7_minute_21 47 = J_ireturn 0 0 := rfl
theorem F_X7_minute_21_ok : jOK Y_X7_minute none (F_X7_minute_21) := (jOK_node (jOK_node (jOK_node (jOK_leaf (sn_icge dX7_minute_21 rfl rfl)) (jOK_node (jOK_leaf (sn_aload_n dX7_minute_24 rfl rfl)) (jOK_leaf (sn_aload_n dX7_minute_25 rfl rfl)))) (jOK_node (jOK_leaf (sn_getfield dX7_minute_26 rfl rfl (by decide) tw_624 jin7)) (jOK_node (jOK_leaf (sn_iconst dX7_minute_29 rfl rfl)) (jOK_leaf (sn_callV (Y' := Y_X7_minuteOn) ok_X7_minuteOn dX7_minute_30 rfl rfl rfl tw_830 tw_832 tp_40 tw_8 jc_X7_minuteOn rfl ⟨by decide, by decide, rfl⟩ ⟨by decide, by decide⟩))))) (jOK_node (jOK_node (jOK_leaf (sn_iinc dX7_minute_33 rfl rfl (by decide))) (jOK_node (jOK_leaf (sn_goto dX7_minute_36 rfl)) (jOK_leaf (sn_aload_n dX7_minute_39 rfl rfl)))) (jOK_node (jOK_node (jOK_leaf (sn_aload_n dX7_minute_40 rfl rfl)) (jOK_leaf (sn_getfield dX7_minute_41 rfl rfl (by decide) tw_624 jin7))) (jOK_node (jOK_leaf (sn_callV (Y' := Y_X7_meters) ok_X7_meters dX7_minute_44 rfl rfl rfl tw_776 tw_778 tp_31 tw_8 jc_X7_meters rfl ⟨by decide, by decide, rfl⟩ ⟨by decide, by decide⟩)) (jOK_leaf (sn_ireturn dX7_minute_47 rfl rfl))))))
def F_X7_minute_0_47 : Nat → jT := fun pc => bif Nat.blt pc 21 then F_X7_minute_0 pc else F_X7_minute_21 pc
theorem F_X7_minute_0_47_l {pc : Nat} (h : Nat.blt pc 21 = true) : F_X7_minute_0_47 pc = F_X7_minute_0 pc := by unfold F_X7_minute_0_47; rw [h]; rfl
theorem F_X7_minute_0_47_r {pc : Nat} (h : Nat.blt pc 21 = false) : F_X7_minute_0_47 pc = F_X7_minute_21 pc := by unfold F_X7_minute_0_47; rw [h]; rfl
theorem F_X7_minute_0_47_ok : jOK Y_X7_minute none (F_X7_minute_0_47) := jOK_node (F_X7_minute_0_ok) (F_X7_minute_21_ok)
def F_X7_minute : Nat → jT := F_X7_minute_0_47
theorem OK_X7_minute : jOK Y_X7_minute none (F_X7_minute) := F_X7_minute_0_47_ok
theorem ft_X7_minute_0 : F_X7_minute 0 = J_iload 1 1 := (F_X7_minute_0_47_l rfl).trans (ftl_X7_minute_0)
theorem ft_X7_minute_1 : F_X7_minute 1 = J_iconst 1 2 := (F_X7_minute_0_47_l rfl).trans (ftl_X7_minute_1)
theorem ft_X7_minute_2 : F_X7_minute 2 = J_iconst 99 4 := (F_X7_minute_0_47_l rfl).trans (ftl_X7_minute_2)
theorem ft_X7_minute_4 : F_X7_minute 4 = J_callS S_X7_in 3 7 := (F_X7_minute_0_47_l rfl).trans (ftl_X7_minute_4)
theorem ft_X7_minute_7 : F_X7_minute 7 = J_ifne 13 10 := (F_X7_minute_0_47_l rfl).trans (ftl_X7_minute_7)
theorem ft_X7_minute_10 : F_X7_minute 10 = J_iconst (-2) 12 := (F_X7_minute_0_47_l rfl).trans (ftl_X7_minute_10)
theorem ft_X7_minute_12 : F_X7_minute 12 = J_ireturn 0 0 := (F_X7_minute_0_47_l rfl).trans (ftl_X7_minute_12)
theorem ft_X7_minute_13 : F_X7_minute 13 = J_aload 0 14 := (F_X7_minute_0_47_l rfl).trans (ftl_X7_minute_13)
theorem ft_X7_minute_14 : F_X7_minute 14 = J_callV 7 S_X7_note 0 17 := (F_X7_minute_0_47_l rfl).trans (ftl_X7_minute_14)
theorem ft_X7_minute_17 : F_X7_minute 17 = J_iconst 0 18 := (F_X7_minute_0_47_l rfl).trans (ftl_X7_minute_17)
theorem ft_X7_minute_18 : F_X7_minute 18 = J_istore 2 19 := (F_X7_minute_0_47_l rfl).trans (ftl_X7_minute_18)
theorem ft_X7_minute_19 : F_X7_minute 19 = J_iload 2 20 := (F_X7_minute_0_47_l rfl).trans (ftl_X7_minute_19)
theorem ft_X7_minute_20 : F_X7_minute 20 = J_iload 1 21 := (F_X7_minute_0_47_l rfl).trans (ftl_X7_minute_20)
theorem ft_X7_minute_21 : F_X7_minute 21 = J_icge 39 24 := (F_X7_minute_0_47_r rfl).trans (ftl_X7_minute_21)
theorem ft_X7_minute_24 : F_X7_minute 24 = J_aload 0 25 := (F_X7_minute_0_47_r rfl).trans (ftl_X7_minute_24)
theorem ft_X7_minute_25 : F_X7_minute 25 = J_aload 0 26 := (F_X7_minute_0_47_r rfl).trans (ftl_X7_minute_25)
theorem ft_X7_minute_26 : F_X7_minute 26 = J_getfield 7 10 29 := (F_X7_minute_0_47_r rfl).trans (ftl_X7_minute_26)
theorem ft_X7_minute_29 : F_X7_minute 29 = J_iconst 0 30 := (F_X7_minute_0_47_r rfl).trans (ftl_X7_minute_29)
theorem ft_X7_minute_30 : F_X7_minute 30 = J_callV 7 S_X7_minuteOn 2 33 := (F_X7_minute_0_47_r rfl).trans (ftl_X7_minute_30)
theorem ft_X7_minute_33 : F_X7_minute 33 = J_iinc 2 1 36 := (F_X7_minute_0_47_r rfl).trans (ftl_X7_minute_33)
theorem ft_X7_minute_36 : F_X7_minute 36 = J_goto 19 := (F_X7_minute_0_47_r rfl).trans (ftl_X7_minute_36)
theorem ft_X7_minute_39 : F_X7_minute 39 = J_aload 0 40 := (F_X7_minute_0_47_r rfl).trans (ftl_X7_minute_39)
theorem ft_X7_minute_40 : F_X7_minute 40 = J_aload 0 41 := (F_X7_minute_0_47_r rfl).trans (ftl_X7_minute_40)
theorem ft_X7_minute_41 : F_X7_minute 41 = J_getfield 7 10 44 := (F_X7_minute_0_47_r rfl).trans (ftl_X7_minute_41)
theorem ft_X7_minute_44 : F_X7_minute 44 = J_callV 7 S_X7_meters 1 47 := (F_X7_minute_0_47_r rfl).trans (ftl_X7_minute_44)
theorem ft_X7_minute_47 : F_X7_minute 47 = J_ireturn 0 0 := (F_X7_minute_0_47_r rfl).trans (ftl_X7_minute_47)
theorem lp_X7_minute {Q : jQ} {C2 C0 : Nat → Nat → Int32} {z : Nat → Int64} {nb P K B n : Nat} (s : SR C2 P K) (s0 : SR C0 P K) (e5 : C2 5 = C0 5) (e4 : C2 4 = C0 4) (e3 : C2 3 = C0 3) (h15 : C2 71 22 = 15) (h9 : C2 71 23 = -9) (iv : Inv P K B (C0 9)) (hB : B + 8000 < 2 ^ 28) (hn : n ≤ 99) (h : ∀ C3, Mo 78 C2 C3 → C3 78 = goF C0 15 15 (-1) n (C0 9) → Q (some (.int (metersF (goF C0 15 15 (-1) n (C0 9))))) (memS 94 C3 z)) :
    ∀ k j, j + k = n → ∀ C', Mo 78 C2 C' → C' 78 = goF C0 15 15 (-1) j (C0 9) → Rn Y_X7_minute none Q 19 [some (.ref 71), some (.int (nI n)), some (.int (nI j))] [] (memS 94 C' z) (nb, 0, 0) := by
  intro k
  induction k with
  | zero =>
    intro j hj C' mo e
    have hjn : j = n := by omega
    subst hjn
    have hc : (nI j ≤ nI j) = True := eq_true (nI_le (by omega) (by omega))
    have hI := (goF_I (sil := 15) (fed := 15) (l := -1) s0.1 iv j (by omega)).1
    rw [← e] at hI
    refine jrun_first OK_X7_minute (C := [19]) 60 ?_
    simp -implicitDefEqProofs only [jr_0, jr_1, jr_2, j_iconst, j_lconst, j_iload0, j_aload0, j_istore0, j_astore0, j_iinc0, j_iload1, j_aload1, j_istore1, j_astore1, j_iinc1, j_iload2, j_aload2, j_istore2, j_astore2, j_iinc2, j_iload3, j_aload3, j_istore3, j_astore3, j_iinc3, j_iload4, j_aload4, j_istore4, j_astore4, j_iinc4, j_iload5, j_aload5, j_istore5, j_astore5, j_iinc5, j_iload6, j_aload6, j_istore6, j_astore6, j_iinc6, j_iload7, j_aload7, j_istore7, j_astore7, j_iinc7, j_iload8, j_aload8, j_istore8, j_astore8, j_iinc8, j_iadd, j_isub, j_imul, j_iand, j_ior, j_ixor, j_ishl, j_ishr, j_iushr, j_idiv, j_irem, j_ineg, j_ladd, j_lmul, j_land, j_lor, j_lcmp, j_lushr, j_lshl, j_i2l, j_l2i, j_dupI, j_dupR, j_popI, j_dup2, j_ifeq, j_iceq, j_ifne, j_icne, j_iflt, j_iclt, j_ifge, j_icge, j_ifgt, j_icgt, j_ifle, j_icle, j_goto, j_tsw, j_sw0, j_sw1, j_ireturn, j_zreturn, j_lreturn, j_return, j_getfield, j_putI, j_putJ, j_putR, j_iaload, j_baload, j_iastore, j_bastore, j_aaload, j_q, j_aastore, j_acopy, j_mmin, j_mmax, j_mabs, j_objinit, j_new, j_newI, j_newQ, j_sld, j_slen, j_callV0, j_callI0, j_callS0, j_callV1, j_callI1, j_callS1, j_callV2, j_callI2, j_callS2, j_callV3, j_callS3, j_callV4, j_callS4, j_callV5, j_callS5, j_pushS, j_pushN, j_sh0, j_sh1, j_sh2, j_sh3, j_sh4, Int32.reduceAdd, Int32.reduceMul, Int32.reduceSub, Int32.reduceLT, Int32.reduceLE, eq_self, i32_10, i32_01, ne_eq, hrow_s, hrow_n, ne10, ne100, ne1000, ne7, ne4, ne14, ne9973, or_true, true_or, or_false, false_or, not_true_eq_false, not_false_eq_true, false_implies, implies_true, and_true, forall_const, true_implies, jargs_n, jargs_r, jargs_i, List.cons_append, List.nil_append, true_and, Nat.reduceEqDiff, reduceIte, ft_X7_minute_0, ft_X7_minute_1, ft_X7_minute_2, ft_X7_minute_4, ft_X7_minute_7, ft_X7_minute_10, ft_X7_minute_12, ft_X7_minute_13, ft_X7_minute_14, ft_X7_minute_17, ft_X7_minute_18, ft_X7_minute_19, ft_X7_minute_20, ft_X7_minute_21, ft_X7_minute_24, ft_X7_minute_25, ft_X7_minute_26, ft_X7_minute_29, ft_X7_minute_30, ft_X7_minute_33, ft_X7_minute_36, ft_X7_minute_39, ft_X7_minute_40, ft_X7_minute_41, ft_X7_minute_44, ft_X7_minute_47, hc, rc_71, fl_71_10]
    refine s_X7_meters jmr78 (s.mo mo (Or.inl rfl)) hI ?_
    simp -implicitDefEqProofs only [jr_0, jr_1, jr_2, j_iconst, j_lconst, j_iload0, j_aload0, j_istore0, j_astore0, j_iinc0, j_iload1, j_aload1, j_istore1, j_astore1, j_iinc1, j_iload2, j_aload2, j_istore2, j_astore2, j_iinc2, j_iload3, j_aload3, j_istore3, j_astore3, j_iinc3, j_iload4, j_aload4, j_istore4, j_astore4, j_iinc4, j_iload5, j_aload5, j_istore5, j_astore5, j_iinc5, j_iload6, j_aload6, j_istore6, j_astore6, j_iinc6, j_iload7, j_aload7, j_istore7, j_astore7, j_iinc7, j_iload8, j_aload8, j_istore8, j_astore8, j_iinc8, j_iadd, j_isub, j_imul, j_iand, j_ior, j_ixor, j_ishl, j_ishr, j_iushr, j_idiv, j_irem, j_ineg, j_ladd, j_lmul, j_land, j_lor, j_lcmp, j_lushr, j_lshl, j_i2l, j_l2i, j_dupI, j_dupR, j_popI, j_dup2, j_ifeq, j_iceq, j_ifne, j_icne, j_iflt, j_iclt, j_ifge, j_icge, j_ifgt, j_icgt, j_ifle, j_icle, j_goto, j_tsw, j_sw0, j_sw1, j_ireturn, j_zreturn, j_lreturn, j_return, j_getfield, j_putI, j_putJ, j_putR, j_iaload, j_baload, j_iastore, j_bastore, j_aaload, j_q, j_aastore, j_acopy, j_mmin, j_mmax, j_mabs, j_objinit, j_new, j_newI, j_newQ, j_sld, j_slen, j_callV0, j_callI0, j_callS0, j_callV1, j_callI1, j_callS1, j_callV2, j_callI2, j_callS2, j_callV3, j_callS3, j_callV4, j_callS4, j_callV5, j_callS5, j_pushS, j_pushN, j_sh0, j_sh1, j_sh2, j_sh3, j_sh4, Int32.reduceAdd, Int32.reduceMul, Int32.reduceSub, Int32.reduceLT, Int32.reduceLE, eq_self, i32_10, i32_01, ne_eq, hrow_s, hrow_n, ne10, ne100, ne1000, ne7, ne4, ne14, ne9973, or_true, true_or, or_false, false_or, not_true_eq_false, not_false_eq_true, false_implies, implies_true, and_true, forall_const, true_implies, jargs_n, jargs_r, jargs_i, List.cons_append, List.nil_append, true_and, Nat.reduceEqDiff, reduceIte, ft_X7_minute_0, ft_X7_minute_1, ft_X7_minute_2, ft_X7_minute_4, ft_X7_minute_7, ft_X7_minute_10, ft_X7_minute_12, ft_X7_minute_13, ft_X7_minute_14, ft_X7_minute_17, ft_X7_minute_18, ft_X7_minute_19, ft_X7_minute_20, ft_X7_minute_21, ft_X7_minute_24, ft_X7_minute_25, ft_X7_minute_26, ft_X7_minute_29, ft_X7_minute_30, ft_X7_minute_33, ft_X7_minute_36, ft_X7_minute_39, ft_X7_minute_40, ft_X7_minute_41, ft_X7_minute_44, ft_X7_minute_47]
    have := h C' mo e
    rw [← e] at this
    exact this
  | succ k ih =>
    intro j hj C' mo e
    have hc : (nI n ≤ nI j) = False := eq_false (nI_ge (by omega) (by omega))
    have hI := (goF_I (sil := 15) (fed := 15) (l := -1) s0.1 iv j (by omega)).1
    rw [← e] at hI
    refine jrun_first OK_X7_minute (C := [19]) 60 ?_
    simp -implicitDefEqProofs only [jr_0, jr_1, jr_2, j_iconst, j_lconst, j_iload0, j_aload0, j_istore0, j_astore0, j_iinc0, j_iload1, j_aload1, j_istore1, j_astore1, j_iinc1, j_iload2, j_aload2, j_istore2, j_astore2, j_iinc2, j_iload3, j_aload3, j_istore3, j_astore3, j_iinc3, j_iload4, j_aload4, j_istore4, j_astore4, j_iinc4, j_iload5, j_aload5, j_istore5, j_astore5, j_iinc5, j_iload6, j_aload6, j_istore6, j_astore6, j_iinc6, j_iload7, j_aload7, j_istore7, j_astore7, j_iinc7, j_iload8, j_aload8, j_istore8, j_astore8, j_iinc8, j_iadd, j_isub, j_imul, j_iand, j_ior, j_ixor, j_ishl, j_ishr, j_iushr, j_idiv, j_irem, j_ineg, j_ladd, j_lmul, j_land, j_lor, j_lcmp, j_lushr, j_lshl, j_i2l, j_l2i, j_dupI, j_dupR, j_popI, j_dup2, j_ifeq, j_iceq, j_ifne, j_icne, j_iflt, j_iclt, j_ifge, j_icge, j_ifgt, j_icgt, j_ifle, j_icle, j_goto, j_tsw, j_sw0, j_sw1, j_ireturn, j_zreturn, j_lreturn, j_return, j_getfield, j_putI, j_putJ, j_putR, j_iaload, j_baload, j_iastore, j_bastore, j_aaload, j_q, j_aastore, j_acopy, j_mmin, j_mmax, j_mabs, j_objinit, j_new, j_newI, j_newQ, j_sld, j_slen, j_callV0, j_callI0, j_callS0, j_callV1, j_callI1, j_callS1, j_callV2, j_callI2, j_callS2, j_callV3, j_callS3, j_callV4, j_callS4, j_callV5, j_callS5, j_pushS, j_pushN, j_sh0, j_sh1, j_sh2, j_sh3, j_sh4, Int32.reduceAdd, Int32.reduceMul, Int32.reduceSub, Int32.reduceLT, Int32.reduceLE, eq_self, i32_10, i32_01, ne_eq, hrow_s, hrow_n, ne10, ne100, ne1000, ne7, ne4, ne14, ne9973, or_true, true_or, or_false, false_or, not_true_eq_false, not_false_eq_true, false_implies, implies_true, and_true, forall_const, true_implies, jargs_n, jargs_r, jargs_i, List.cons_append, List.nil_append, true_and, Nat.reduceEqDiff, reduceIte, ft_X7_minute_0, ft_X7_minute_1, ft_X7_minute_2, ft_X7_minute_4, ft_X7_minute_7, ft_X7_minute_10, ft_X7_minute_12, ft_X7_minute_13, ft_X7_minute_14, ft_X7_minute_17, ft_X7_minute_18, ft_X7_minute_19, ft_X7_minute_20, ft_X7_minute_21, ft_X7_minute_24, ft_X7_minute_25, ft_X7_minute_26, ft_X7_minute_29, ft_X7_minute_30, ft_X7_minute_33, ft_X7_minute_36, ft_X7_minute_39, ft_X7_minute_40, ft_X7_minute_41, ft_X7_minute_44, ft_X7_minute_47, hc, rc_71, fl_71_10]
    refine s_X7_minuteOn (l := -1) (sil := 15) ⟨Or.inl rfl, s.mo mo (Or.inl rfl), by rw [mo.2 23 (by decide), h9]; exact Li_19⟩ hI (by omega) Ta_15 fun C'' m2 e2 => ?_
    simp -implicitDefEqProofs only [jr_0, jr_1, jr_2, j_iconst, j_lconst, j_iload0, j_aload0, j_istore0, j_astore0, j_iinc0, j_iload1, j_aload1, j_istore1, j_astore1, j_iinc1, j_iload2, j_aload2, j_istore2, j_astore2, j_iinc2, j_iload3, j_aload3, j_istore3, j_astore3, j_iinc3, j_iload4, j_aload4, j_istore4, j_astore4, j_iinc4, j_iload5, j_aload5, j_istore5, j_astore5, j_iinc5, j_iload6, j_aload6, j_istore6, j_astore6, j_iinc6, j_iload7, j_aload7, j_istore7, j_astore7, j_iinc7, j_iload8, j_aload8, j_istore8, j_astore8, j_iinc8, j_iadd, j_isub, j_imul, j_iand, j_ior, j_ixor, j_ishl, j_ishr, j_iushr, j_idiv, j_irem, j_ineg, j_ladd, j_lmul, j_land, j_lor, j_lcmp, j_lushr, j_lshl, j_i2l, j_l2i, j_dupI, j_dupR, j_popI, j_dup2, j_ifeq, j_iceq, j_ifne, j_icne, j_iflt, j_iclt, j_ifge, j_icge, j_ifgt, j_icgt, j_ifle, j_icle, j_goto, j_tsw, j_sw0, j_sw1, j_ireturn, j_zreturn, j_lreturn, j_return, j_getfield, j_putI, j_putJ, j_putR, j_iaload, j_baload, j_iastore, j_bastore, j_aaload, j_q, j_aastore, j_acopy, j_mmin, j_mmax, j_mabs, j_objinit, j_new, j_newI, j_newQ, j_sld, j_slen, j_callV0, j_callI0, j_callS0, j_callV1, j_callI1, j_callS1, j_callV2, j_callI2, j_callS2, j_callV3, j_callS3, j_callV4, j_callS4, j_callV5, j_callS5, j_pushS, j_pushN, j_sh0, j_sh1, j_sh2, j_sh3, j_sh4, Int32.reduceAdd, Int32.reduceMul, Int32.reduceSub, Int32.reduceLT, Int32.reduceLE, eq_self, i32_10, i32_01, ne_eq, hrow_s, hrow_n, ne10, ne100, ne1000, ne7, ne4, ne14, ne9973, or_true, true_or, or_false, false_or, not_true_eq_false, not_false_eq_true, false_implies, implies_true, and_true, forall_const, true_implies, jargs_n, jargs_r, jargs_i, List.cons_append, List.nil_append, true_and, Nat.reduceEqDiff, reduceIte, ft_X7_minute_0, ft_X7_minute_1, ft_X7_minute_2, ft_X7_minute_4, ft_X7_minute_7, ft_X7_minute_10, ft_X7_minute_12, ft_X7_minute_13, ft_X7_minute_14, ft_X7_minute_17, ft_X7_minute_18, ft_X7_minute_19, ft_X7_minute_20, ft_X7_minute_21, ft_X7_minute_24, ft_X7_minute_25, ft_X7_minute_26, ft_X7_minute_29, ft_X7_minute_30, ft_X7_minute_33, ft_X7_minute_36, ft_X7_minute_39, ft_X7_minute_40, ft_X7_minute_41, ft_X7_minute_44, ft_X7_minute_47, nI_1]
    refine ih (j + 1) (by omega) C'' (mo.tr m2) ?_
    rw [e2, goF_at s0.1, e, mo.row (Or.inl rfl) 5 rfl, mo.row (Or.inl rfl) 4 rfl, mo.row (Or.inl rfl) 3 rfl, mo.2 22 (by decide), e5, e4, e3, h15]
theorem ok_X7_minute : jMeets Y_X7_minute S_X7_minute := by
  intro nb vs mem Q h
  obtain ⟨C, C0, z, P, K, nx, ct, B, x, rfl, rfl, b, s0, ⟨h15, h9⟩, iv, hB, hy, hn⟩ := h
  refine Ok.run OK_X7_minute [19] 60 [none] pn7 (Nat.le_of_ble_eq_true rfl) rfl ?_
  by_cases g : 1 ≤ x ∧ x ≤ 99
  · have hy := hy g
    obtain ⟨m, hm, rfl⟩ := i32_rng (n := x) (m := 100) (by decide) (fun q => absurd (Int32.lt_of_le_of_lt g.1 q) (by decide)) fun q => absurd (Int32.le_trans q g.2) (by decide)
    simp -implicitDefEqProofs only [jr_0, jr_1, jr_2, j_iconst, j_lconst, j_iload0, j_aload0, j_istore0, j_astore0, j_iinc0, j_iload1, j_aload1, j_istore1, j_astore1, j_iinc1, j_iload2, j_aload2, j_istore2, j_astore2, j_iinc2, j_iload3, j_aload3, j_istore3, j_astore3, j_iinc3, j_iload4, j_aload4, j_istore4, j_astore4, j_iinc4, j_iload5, j_aload5, j_istore5, j_astore5, j_iinc5, j_iload6, j_aload6, j_istore6, j_astore6, j_iinc6, j_iload7, j_aload7, j_istore7, j_astore7, j_iinc7, j_iload8, j_aload8, j_istore8, j_astore8, j_iinc8, j_iadd, j_isub, j_imul, j_iand, j_ior, j_ixor, j_ishl, j_ishr, j_iushr, j_idiv, j_irem, j_ineg, j_ladd, j_lmul, j_land, j_lor, j_lcmp, j_lushr, j_lshl, j_i2l, j_l2i, j_dupI, j_dupR, j_popI, j_dup2, j_ifeq, j_iceq, j_ifne, j_icne, j_iflt, j_iclt, j_ifge, j_icge, j_ifgt, j_icgt, j_ifle, j_icle, j_goto, j_tsw, j_sw0, j_sw1, j_ireturn, j_zreturn, j_lreturn, j_return, j_getfield, j_putI, j_putJ, j_putR, j_iaload, j_baload, j_iastore, j_bastore, j_aaload, j_q, j_aastore, j_acopy, j_mmin, j_mmax, j_mabs, j_objinit, j_new, j_newI, j_newQ, j_sld, j_slen, j_callV0, j_callI0, j_callS0, j_callV1, j_callI1, j_callS1, j_callV2, j_callI2, j_callS2, j_callV3, j_callS3, j_callV4, j_callS4, j_callV5, j_callS5, j_pushS, j_pushN, j_sh0, j_sh1, j_sh2, j_sh3, j_sh4, Int32.reduceAdd, Int32.reduceMul, Int32.reduceSub, Int32.reduceLT, Int32.reduceLE, eq_self, i32_10, i32_01, ne_eq, hrow_s, hrow_n, ne10, ne100, ne1000, ne7, ne4, ne14, ne9973, or_true, true_or, or_false, false_or, not_true_eq_false, not_false_eq_true, false_implies, implies_true, and_true, forall_const, true_implies, jargs_n, jargs_r, jargs_i, List.cons_append, List.nil_append, true_and, Nat.reduceEqDiff, reduceIte, ft_X7_minute_0, ft_X7_minute_1, ft_X7_minute_2, ft_X7_minute_4, ft_X7_minute_7, ft_X7_minute_10, ft_X7_minute_12, ft_X7_minute_13, ft_X7_minute_14, ft_X7_minute_17, ft_X7_minute_18, ft_X7_minute_19, ft_X7_minute_20, ft_X7_minute_21, ft_X7_minute_24, ft_X7_minute_25, ft_X7_minute_26, ft_X7_minute_29, ft_X7_minute_30, ft_X7_minute_33, ft_X7_minute_36, ft_X7_minute_39, ft_X7_minute_40, ft_X7_minute_41, ft_X7_minute_44, ft_X7_minute_47, rc_71, s_X7_in, zb_t g, ne1_0]
    refine s_X7_note b.2.2.2.2.1.1 b.2.2.2.2.1.2 b.2.2.2.2.2.1 b.2.2.2.2.2.2 fun C2 nt => ?_
    simp -implicitDefEqProofs only [jr_0, jr_1, jr_2, j_iconst, j_lconst, j_iload0, j_aload0, j_istore0, j_astore0, j_iinc0, j_iload1, j_aload1, j_istore1, j_astore1, j_iinc1, j_iload2, j_aload2, j_istore2, j_astore2, j_iinc2, j_iload3, j_aload3, j_istore3, j_astore3, j_iinc3, j_iload4, j_aload4, j_istore4, j_astore4, j_iinc4, j_iload5, j_aload5, j_istore5, j_astore5, j_iinc5, j_iload6, j_aload6, j_istore6, j_astore6, j_iinc6, j_iload7, j_aload7, j_istore7, j_astore7, j_iinc7, j_iload8, j_aload8, j_istore8, j_astore8, j_iinc8, j_iadd, j_isub, j_imul, j_iand, j_ior, j_ixor, j_ishl, j_ishr, j_iushr, j_idiv, j_irem, j_ineg, j_ladd, j_lmul, j_land, j_lor, j_lcmp, j_lushr, j_lshl, j_i2l, j_l2i, j_dupI, j_dupR, j_popI, j_dup2, j_ifeq, j_iceq, j_ifne, j_icne, j_iflt, j_iclt, j_ifge, j_icge, j_ifgt, j_icgt, j_ifle, j_icle, j_goto, j_tsw, j_sw0, j_sw1, j_ireturn, j_zreturn, j_lreturn, j_return, j_getfield, j_putI, j_putJ, j_putR, j_iaload, j_baload, j_iastore, j_bastore, j_aaload, j_q, j_aastore, j_acopy, j_mmin, j_mmax, j_mabs, j_objinit, j_new, j_newI, j_newQ, j_sld, j_slen, j_callV0, j_callI0, j_callS0, j_callV1, j_callI1, j_callS1, j_callV2, j_callI2, j_callS2, j_callV3, j_callS3, j_callV4, j_callS4, j_callV5, j_callS5, j_pushS, j_pushN, j_sh0, j_sh1, j_sh2, j_sh3, j_sh4, Int32.reduceAdd, Int32.reduceMul, Int32.reduceSub, Int32.reduceLT, Int32.reduceLE, eq_self, i32_10, i32_01, ne_eq, hrow_s, hrow_n, ne10, ne100, ne1000, ne7, ne4, ne14, ne9973, or_true, true_or, or_false, false_or, not_true_eq_false, not_false_eq_true, false_implies, implies_true, and_true, forall_const, true_implies, jargs_n, jargs_r, jargs_i, List.cons_append, List.nil_append, true_and, Nat.reduceEqDiff, reduceIte, ft_X7_minute_0, ft_X7_minute_1, ft_X7_minute_2, ft_X7_minute_4, ft_X7_minute_7, ft_X7_minute_10, ft_X7_minute_12, ft_X7_minute_13, ft_X7_minute_14, ft_X7_minute_17, ft_X7_minute_18, ft_X7_minute_19, ft_X7_minute_20, ft_X7_minute_21, ft_X7_minute_24, ft_X7_minute_25, ft_X7_minute_26, ft_X7_minute_29, ft_X7_minute_30, ft_X7_minute_33, ft_X7_minute_36, ft_X7_minute_39, ft_X7_minute_40, ft_X7_minute_41, ft_X7_minute_44, ft_X7_minute_47]
    have f : ∀ i, i ≠ 13 → i ≠ 14 → C2 71 i = C 71 i := nt.1.2
    have r : ∀ a, a ≠ 80 → a ≠ 71 → C2 a = C a := nt.1.1
    have s2 : SR C2 P K := b.s.eq (r 3 (by decide) (by decide)) (r 4 (by decide) (by decide)) (r 5 (by decide) (by decide)) (f 2 (by decide) (by decide)) (f 4 (by decide) (by decide)) (f 9 (by decide) (by decide)) (r 73 (by decide) (by decide)) (r 74 (by decide) (by decide)) (r 75 (by decide) (by decide)) (r 76 (by decide) (by decide)) (r 77 (by decide) (by decide))
    obtain ⟨e3, e4, e5⟩ := b.2.2.2.1
    rw [nI_clamp (by omega)] at hy
    exact lp_X7_minute (n := m) s2 s0 ((r 5 (by decide) (by decide)).trans e5) ((r 4 (by decide) (by decide)).trans e4) ((r 3 (by decide) (by decide)).trans e3) (by rw [f 22 (by decide) (by decide), b.2.2.1]; exact h15) (by rw [f 23 (by decide) (by decide), b.2.2.1]; exact h9) iv hB (by omega) (fun C3 mo e => hy C2 C3 nt mo e) m 0 (by omega) C2 Mo.rf (by rw [r 78 (by decide) (by decide), b.e]; rfl)
  · simp -implicitDefEqProofs only [jr_0, jr_1, jr_2, j_iconst, j_lconst, j_iload0, j_aload0, j_istore0, j_astore0, j_iinc0, j_iload1, j_aload1, j_istore1, j_astore1, j_iinc1, j_iload2, j_aload2, j_istore2, j_astore2, j_iinc2, j_iload3, j_aload3, j_istore3, j_astore3, j_iinc3, j_iload4, j_aload4, j_istore4, j_astore4, j_iinc4, j_iload5, j_aload5, j_istore5, j_astore5, j_iinc5, j_iload6, j_aload6, j_istore6, j_astore6, j_iinc6, j_iload7, j_aload7, j_istore7, j_astore7, j_iinc7, j_iload8, j_aload8, j_istore8, j_astore8, j_iinc8, j_iadd, j_isub, j_imul, j_iand, j_ior, j_ixor, j_ishl, j_ishr, j_iushr, j_idiv, j_irem, j_ineg, j_ladd, j_lmul, j_land, j_lor, j_lcmp, j_lushr, j_lshl, j_i2l, j_l2i, j_dupI, j_dupR, j_popI, j_dup2, j_ifeq, j_iceq, j_ifne, j_icne, j_iflt, j_iclt, j_ifge, j_icge, j_ifgt, j_icgt, j_ifle, j_icle, j_goto, j_tsw, j_sw0, j_sw1, j_ireturn, j_zreturn, j_lreturn, j_return, j_getfield, j_putI, j_putJ, j_putR, j_iaload, j_baload, j_iastore, j_bastore, j_aaload, j_q, j_aastore, j_acopy, j_mmin, j_mmax, j_mabs, j_objinit, j_new, j_newI, j_newQ, j_sld, j_slen, j_callV0, j_callI0, j_callS0, j_callV1, j_callI1, j_callS1, j_callV2, j_callI2, j_callS2, j_callV3, j_callS3, j_callV4, j_callS4, j_callV5, j_callS5, j_pushS, j_pushN, j_sh0, j_sh1, j_sh2, j_sh3, j_sh4, Int32.reduceAdd, Int32.reduceMul, Int32.reduceSub, Int32.reduceLT, Int32.reduceLE, eq_self, i32_10, i32_01, ne_eq, hrow_s, hrow_n, ne10, ne100, ne1000, ne7, ne4, ne14, ne9973, or_true, true_or, or_false, false_or, not_true_eq_false, not_false_eq_true, false_implies, implies_true, and_true, forall_const, true_implies, jargs_n, jargs_r, jargs_i, List.cons_append, List.nil_append, true_and, Nat.reduceEqDiff, reduceIte, ft_X7_minute_0, ft_X7_minute_1, ft_X7_minute_2, ft_X7_minute_4, ft_X7_minute_7, ft_X7_minute_10, ft_X7_minute_12, ft_X7_minute_13, ft_X7_minute_14, ft_X7_minute_17, ft_X7_minute_18, ft_X7_minute_19, ft_X7_minute_20, ft_X7_minute_21, ft_X7_minute_24, ft_X7_minute_25, ft_X7_minute_26, ft_X7_minute_29, ft_X7_minute_30, ft_X7_minute_33, ft_X7_minute_36, ft_X7_minute_39, ft_X7_minute_40, ft_X7_minute_41, ft_X7_minute_44, ft_X7_minute_47, s_X7_in, zb_f g]
    exact hn g
theorem co_minute (x : Int32) : Co S_X6_minute S_X7_minute [.ref 0, .int x] [.ref 71, .int x] := by
  intro n C z h hn
  obtain ⟨P, K, L, nx, ct, sn, h⟩ := h
  have k := h.ak
  have hI : 1 ≤ x ∧ x ≤ 99 → Inv P K (3960 * n + 3960) (goF C 15 15 (-1) x.toNatClampNeg (C 9)) := fun g => by
    obtain ⟨m, hm, rfl⟩ := i32_rng (n := x) (m := 100) (by decide) (fun q => absurd (Int32.lt_of_le_of_lt g.1 q) (by decide)) fun q => absurd (Int32.le_trans q g.2) (by decide)
    rw [nI_clamp (by omega)]
    exact ((goF_I (sil := 15) (fed := 15) (l := -1) k.s.1 k.iv m (by omega)).1).le (by omega)
  refine co_act (cond := 1 ≤ x ∧ x ≤ 99) h (fun nb Q q => s_X6_minute k.rc h.hr.1.1 q) (fun g => ?_) hI (fun g nb Q C1 b hq => ?_) (fun g nb Q C1 b hq => ?_)
  · obtain ⟨m, hm, e⟩ := metersF_nn (hI g) (by omega)
    rw [e]
    exact nn_nI (by omega)
  · exact ⟨C1, C, z, P, K, nx, ct, 3960 * n, x, rfl, rfl, b, k.s, ⟨h.h15, h.h9⟩, k.iv, by omega, fun _ => hq, fun q => absurd g q⟩
  · exact ⟨C1, C, z, P, K, nx, ct, 3960 * n, x, rfl, rfl, b, k.s, ⟨h.h15, h.h9⟩, k.iv, by omega, fun q => absurd q g, fun _ => hq⟩
/-! plug -/
noncomputable def cnF (ρ : Nat → Int32) : Nat → Int32
  | 0 => 0
  | j + 1 => cnF ρ j + pick (ρ (0 + j) = -9) 0 1
theorem cnF_P {P K B : Nat} {ρ : Nat → Int32} (h : Inv P K B ρ) : ∀ k, P + k ≤ 4 → cnF ρ (P + k) = cnF ρ P
  | 0, _ => rfl
  | k + 1, hk => by
    have ih := cnF_P h k (by omega)
    show cnF ρ (P + k) + pick (ρ (0 + (P + k)) = -9) 0 1 = _
    have e : ρ (P + k) = -9 := by
      rcases h.pi (p := P + k) (by omega) with q | q
      · exact q.1
      · have := q.1; omega
    rw [Nat.zero_add, pick_t e, Int32.add_zero, ih]
theorem cnF_4 {ρ : Nat → Int32} : cnF ρ 4 = carsF ρ := by
  show (((0 : Int32) + pick (ρ 0 = -9) 0 1) + pick (ρ 1 = -9) 0 1) + pick (ρ 2 = -9) 0 1 + pick (ρ 3 = -9) 0 1 = _
  unfold carsF
  by_cases g0 : ρ 0 = -9 <;> by_cases g1 : ρ 1 = -9 <;> by_cases g2 : ρ 2 = -9 <;> by_cases g3 : ρ 3 = -9 <;> simp [pick, g0, g1, g2, g3]
theorem cnF_eq {P K B : Nat} {ρ : Nat → Int32} (h : Inv P K B ρ) (h4 : P ≤ 4) : cnF ρ P = carsF ρ := by
  rw [← cnF_4, ← cnF_P h (4 - P) (by omega), show P + (4 - P) = 4 by omega]
theorem carsF_nn {ρ : Nat → Int32} : ¬ carsF ρ < 0 := by
  unfold carsF
  by_cases g0 : ρ 0 = -9 <;> by_cases g1 : ρ 1 = -9 <;> by_cases g2 : ρ 2 = -9 <;> by_cases g3 : ρ 3 = -9 <;> simp only [g0, g1, g2, g3, reduceIte] <;> decide
def S_X7_plug : jSp := fun _ vs mem Q => ∃ C C0 z P K nx ct B, ∃ p c : Int32, vs = [.ref 71, .int p, .int c] ∧ mem = memS 94 C z ∧ Bf C0 C P K nx ct ∧ SR C0 P K ∧ Inv P K B (C0 9) ∧ (okPlug C0 (C0 9) p c → ∀ C2 C3, Noted C C2 nx ct → Mo 78 C2 C3 → C3 78 = plugR (C0 9) p c → Q (some (.int (carsF (plugR (C0 9) p c)))) (memS 94 C3 z)) ∧ (¬ okPlug C0 (C0 9) p c → Q (some (.int (pick (okPost C0 p ∧ okCar C0 c) (-3) (-1)))) (memS 94 C z))
def F_X7_plug_0 : Nat → jT := fun pc => (bif Nat.blt pc 10 then (bif Nat.blt pc 5 then (bif Nat.blt pc 1 then (bif Nat.beq pc 0 then J_aload 0 1 else jbad) else (bif Nat.blt pc 2 then (bif Nat.beq pc 1 then J_iload 1 2 else jbad) else (bif Nat.beq pc 2 then J_callV 7 S_X7_isPost 1 5 else jbad))) else (bif Nat.blt pc 8 then (bif Nat.beq pc 5 then J_ifeq 16 8 else jbad) else (bif Nat.blt pc 9 then (bif Nat.beq pc 8 then J_aload 0 9 else jbad) else (bif Nat.beq pc 9 then J_iload 2 10 else jbad)))) else (bif Nat.blt pc 17 then (bif Nat.blt pc 13 then (bif Nat.beq pc 10 then J_callV 7 S_X7_isCar 1 13 else jbad) else (bif Nat.blt pc 16 then (bif Nat.beq pc 13 then J_ifne 18 16 else jbad) else (bif Nat.beq pc 16 then J_iconst (-1) 17 else jbad))) else (bif Nat.blt pc 19 then (bif Nat.blt pc 18 then (bif Nat.beq pc 17 then J_ireturn 0 0 else jbad) else (bif Nat.beq pc 18 then J_aload 0 19 else jbad)) else (bif Nat.blt pc 20 then (bif Nat.beq pc 19 then J_aload 0 20 else jbad) else (bif Nat.beq pc 20 then J_getfield 7 10 23 else jbad)))))
theorem ftl_X7_plug_0 : F_X7_plug_0 0 = J_aload 0 1 := rfl
theorem ftl_X7_plug_1 : F_X7_plug_0 1 = J_iload 1 2 := rfl
theorem ftl_X7_plug_2 : F_X7_plug_0 2 = J_callV 7 S_X7_isPost 1 5 := rfl
theorem ftl_X7_plug_5 : F_X7_plug_0 5 = J_ifeq 16 8 := rfl
theorem ftl_X7_plug_8 : F_X7_plug_0 8 = J_aload 0 9 := rfl
theorem ftl_X7_plug_9 : F_X7_plug_0 9 = J_iload 2 10 := rfl
theorem ftl_X7_plug_10 : F_X7_plug_0 10 = J_callV 7 S_X7_isCar 1 13 := rfl
theorem ftl_X7_plug_13 : F_X7_plug_0 13 = J_ifne 18 16 := rfl
theorem ftl_X7_plug_16 : F_X7_plug_0 16 = J_iconst (-1) 17 := rfl
theorem ftl_X7_plug_17 : F_X7_plug_0 17 = J_ireturn 0 0 := rfl
theorem ftl_X7_plug_18 : F_X7_plug_0 18 = J_aload 0 19 := rfl
theorem ftl_X7_plug_19 : F_X7_plug_0 19 = J_aload 0 20 := rfl
theorem ftl_X7_plug_20 : F_X7_plug_0 20 = J_getfield 7 10 23 := rfl
theorem F_X7_plug_0_ok : jOK Y_X7_plug none (F_X7_plug_0) := (jOK_node (jOK_node (jOK_node (jOK_leaf (sn_aload_n dX7_plug_0 rfl rfl)) (jOK_node (jOK_leaf (sn_iload_n dX7_plug_1 rfl rfl)) (jOK_leaf (sn_callV (Y' := Y_X7_isPost) ok_X7_isPost dX7_plug_2 rfl rfl rfl tw_788 tw_790 tp_33 tw_8 jc_X7_isPost rfl ⟨by decide, by decide, rfl⟩ ⟨by decide, by decide⟩)))) (jOK_node (jOK_leaf (sn_ifeq dX7_plug_5 rfl rfl)) (jOK_node (jOK_leaf (sn_aload_n dX7_plug_8 rfl rfl)) (jOK_leaf (sn_iload_n dX7_plug_9 rfl rfl))))) (jOK_node (jOK_node (jOK_leaf (sn_callV (Y' := Y_X7_isCar) ok_X7_isCar dX7_plug_10 rfl rfl rfl tw_815 tw_817 tp_38 tw_8 jc_X7_isCar rfl ⟨by decide, by decide, rfl⟩ ⟨by decide, by decide⟩)) (jOK_node (jOK_leaf (sn_ifne dX7_plug_13 rfl rfl)) (jOK_leaf (sn_iconst dX7_plug_16 rfl rfl)))) (jOK_node (jOK_node (jOK_leaf (sn_ireturn dX7_plug_17 rfl rfl)) (jOK_leaf (sn_aload_n dX7_plug_18 rfl rfl))) (jOK_node (jOK_leaf (sn_aload_n dX7_plug_19 rfl rfl)) (jOK_leaf (sn_getfield dX7_plug_20 rfl rfl (by decide) tw_624 jin7))))))
def F_X7_plug_23 : Nat → jT := fun pc => (bif Nat.blt pc 34 then (bif Nat.blt pc 28 then (bif Nat.blt pc 24 then (bif Nat.beq pc 23 then J_iload 1 24 else jbad) else (bif Nat.blt pc 25 then (bif Nat.beq pc 24 then J_iload 2 25 else jbad) else (bif Nat.beq pc 25 then J_callV 7 S_X7_mayPlug 3 28 else jbad))) else (bif Nat.blt pc 31 then (bif Nat.beq pc 28 then J_ifne 34 31 else jbad) else (bif Nat.blt pc 33 then (bif Nat.beq pc 31 then J_iconst (-3) 33 else jbad) else (bif Nat.beq pc 33 then J_ireturn 0 0 else jbad)))) else (bif Nat.blt pc 39 then (bif Nat.blt pc 35 then (bif Nat.beq pc 34 then J_aload 0 35 else jbad) else (bif Nat.blt pc 38 then (bif Nat.beq pc 35 then J_callV 7 S_X7_note 0 38 else jbad) else (bif Nat.beq pc 38 then J_aload 0 39 else jbad))) else (bif Nat.blt pc 43 then (bif Nat.blt pc 40 then (bif Nat.beq pc 39 then J_aload 0 40 else jbad) else (bif Nat.beq pc 40 then J_getfield 7 10 43 else jbad)) else (bif Nat.blt pc 44 then (bif Nat.beq pc 43 then J_iload 1 44 else jbad) else (bif Nat.beq pc 44 then J_iload 2 45 else jbad)))))
theorem ftl_X7_plug_23 : F_X7_plug_23 23 = J_iload 1 24 := rfl
theorem ftl_X7_plug_24 : F_X7_plug_23 24 = J_iload 2 25 := rfl
theorem ftl_X7_plug_25 : F_X7_plug_23 25 = J_callV 7 S_X7_mayPlug 3 28 := rfl
theorem ftl_X7_plug_28 : F_X7_plug_23 28 = J_ifne 34 31 := rfl
theorem ftl_X7_plug_31 : F_X7_plug_23 31 = J_iconst (-3) 33 := rfl
theorem ftl_X7_plug_33 : F_X7_plug_23 33 = J_ireturn 0 0 := rfl
theorem ftl_X7_plug_34 : F_X7_plug_23 34 = J_aload 0 35 := rfl
theorem ftl_X7_plug_35 : F_X7_plug_23 35 = J_callV 7 S_X7_note 0 38 := rfl
theorem ftl_X7_plug_38 : F_X7_plug_23 38 = J_aload 0 39 := rfl
theorem ftl_X7_plug_39 : F_X7_plug_23 39 = J_aload 0 40 := rfl
theorem ftl_X7_plug_40 : F_X7_plug_23 40 = J_getfield 7 10 43 := rfl
theorem ftl_X7_plug_43 : F_X7_plug_23 43 = J_iload 1 44 := rfl
theorem ftl_X7_plug_44 : F_X7_plug_23 44 = J_iload 2 45 := rfl
theorem F_X7_plug_23_ok : jOK Y_X7_plug none (F_X7_plug_23) := (jOK_node (jOK_node (jOK_node (jOK_leaf (sn_iload_n dX7_plug_23 rfl rfl)) (jOK_node (jOK_leaf (sn_iload_n dX7_plug_24 rfl rfl)) (jOK_leaf (sn_callV (Y' := Y_X7_mayPlug) ok_X7_mayPlug dX7_plug_25 rfl rfl rfl tw_872 tw_874 tp_48 tw_8 jc_X7_mayPlug rfl ⟨by decide, by decide, rfl⟩ ⟨by decide, by decide⟩)))) (jOK_node (jOK_leaf (sn_ifne dX7_plug_28 rfl rfl)) (jOK_node (jOK_leaf (sn_bipush dX7_plug_31 rfl rfl)) (jOK_leaf (sn_ireturn dX7_plug_33 rfl rfl))))) (jOK_node (jOK_node (jOK_leaf (sn_aload_n dX7_plug_34 rfl rfl)) (jOK_node (jOK_leaf (sn_callV (Y' := Y_X7_note) ok_X7_note dX7_plug_35 rfl rfl rfl tw_826 tw_828 tp_39 tw_8 jc_X7_note rfl ⟨by decide, by decide, rfl⟩ ⟨by decide, by decide⟩)) (jOK_leaf (sn_aload_n dX7_plug_38 rfl rfl)))) (jOK_node (jOK_node (jOK_leaf (sn_aload_n dX7_plug_39 rfl rfl)) (jOK_leaf (sn_getfield dX7_plug_40 rfl rfl (by decide) tw_624 jin7))) (jOK_node (jOK_leaf (sn_iload_n dX7_plug_43 rfl rfl)) (jOK_leaf (sn_iload_n dX7_plug_44 rfl rfl))))))
def F_X7_plug_0_44 : Nat → jT := fun pc => bif Nat.blt pc 23 then F_X7_plug_0 pc else F_X7_plug_23 pc
theorem F_X7_plug_0_44_l {pc : Nat} (h : Nat.blt pc 23 = true) : F_X7_plug_0_44 pc = F_X7_plug_0 pc := by unfold F_X7_plug_0_44; rw [h]; rfl
theorem F_X7_plug_0_44_r {pc : Nat} (h : Nat.blt pc 23 = false) : F_X7_plug_0_44 pc = F_X7_plug_23 pc := by unfold F_X7_plug_0_44; rw [h]; rfl
theorem F_X7_plug_0_44_ok : jOK Y_X7_plug none (F_X7_plug_0_44) := jOK_node (F_X7_plug_0_ok) (F_X7_plug_23_ok)
def F_X7_plug_45 : Nat → jT := fun pc => (bif Nat.blt pc 55 then (bif Nat.blt pc 50 then (bif Nat.blt pc 48 then (bif Nat.beq pc 45 then J_callV 7 S_X7_plugOn 3 48 else jbad) else (bif Nat.blt pc 49 then (bif Nat.beq pc 48 then J_iconst 0 49 else jbad) else (bif Nat.beq pc 49 then J_istore 3 50 else jbad))) else (bif Nat.blt pc 51 then (bif Nat.beq pc 50 then J_iconst 0 51 else jbad) else (bif Nat.blt pc 53 then (bif Nat.beq pc 51 then J_istore 4 53 else jbad) else (bif Nat.beq pc 53 then J_iload 4 55 else jbad)))) else (bif Nat.blt pc 62 then (bif Nat.blt pc 56 then (bif Nat.beq pc 55 then J_aload 0 56 else jbad) else (bif Nat.blt pc 59 then (bif Nat.beq pc 56 then J_getfield 7 2 59 else jbad) else (bif Nat.beq pc 59 then J_icge 90 62 else jbad))) else (bif Nat.blt pc 64 then (bif Nat.blt pc 63 then (bif Nat.beq pc 62 then J_iload 3 63 else jbad) else (bif Nat.beq pc 63 then J_aload 0 64 else jbad)) else (bif Nat.blt pc 67 then (bif Nat.beq pc 64 then J_getfield 7 10 67 else jbad) else (bif Nat.beq pc 67 then J_iconst 0 68 else jbad)))))
theorem ftl_X7_plug_45 : F_X7_plug_45 45 = J_callV 7 S_X7_plugOn 3 48 := rfl
theorem ftl_X7_plug_48 : F_X7_plug_45 48 = J_iconst 0 49 := rfl
theorem ftl_X7_plug_49 : F_X7_plug_45 49 = J_istore 3 50 := rfl
theorem ftl_X7_plug_50 : F_X7_plug_45 50 = J_iconst 0 51 := rfl
theorem ftl_X7_plug_51 : F_X7_plug_45 51 = J_istore 4 53 := rfl
theorem ftl_X7_plug_53 : F_X7_plug_45 53 = J_iload 4 55 := rfl
theorem ftl_X7_plug_55 : F_X7_plug_45 55 = J_aload 0 56 := rfl
theorem ftl_X7_plug_56 : F_X7_plug_45 56 = J_getfield 7 2 59 := rfl
theorem ftl_X7_plug_59 : F_X7_plug_45 59 = J_icge 90 62 := rfl
theorem ftl_X7_plug_62 : F_X7_plug_45 62 = J_iload 3 63 := rfl
theorem ftl_X7_plug_63 : F_X7_plug_45 63 = J_aload 0 64 := rfl
theorem ftl_X7_plug_64 : F_X7_plug_45 64 = J_getfield 7 10 67 := rfl
theorem ftl_X7_plug_67 : F_X7_plug_45 67 = J_iconst 0 68 := rfl
theorem F_X7_plug_45_ok : jOK Y_X7_plug none (F_X7_plug_45) := (jOK_node (jOK_node (jOK_node (jOK_leaf (sn_callV (Y' := Y_X7_plugOn) ok_X7_plugOn dX7_plug_45 rfl rfl rfl tw_876 tw_878 tp_49 tw_8 jc_X7_plugOn rfl ⟨by decide, by decide, rfl⟩ ⟨by decide, by decide⟩)) (jOK_node (jOK_leaf (sn_iconst dX7_plug_48 rfl rfl)) (jOK_leaf (sn_istore_n dX7_plug_49 rfl rfl (by decide))))) (jOK_node (jOK_leaf (sn_iconst dX7_plug_50 rfl rfl)) (jOK_node (jOK_leaf (sn_istore dX7_plug_51 rfl (by decide))) (jOK_leaf (sn_iload dX7_plug_53 rfl))))) (jOK_node (jOK_node (jOK_leaf (sn_aload_n dX7_plug_55 rfl rfl)) (jOK_node (jOK_leaf (sn_getfield dX7_plug_56 rfl rfl (by decide) tw_616 jin7)) (jOK_leaf (sn_icge dX7_plug_59 rfl rfl)))) (jOK_node (jOK_node (jOK_leaf (sn_iload_n dX7_plug_62 rfl rfl)) (jOK_leaf (sn_aload_n dX7_plug_63 rfl rfl))) (jOK_node (jOK_leaf (sn_getfield dX7_plug_64 rfl rfl (by decide) tw_624 jin7)) (jOK_leaf (sn_iconst dX7_plug_67 rfl rfl))))))
def F_X7_plug_68 : Nat → jT := fun pc => (bif Nat.blt pc 81 then (bif Nat.blt pc 72 then (bif Nat.blt pc 70 then (bif Nat.beq pc 68 then J_iload 4 70 else jbad) else (bif Nat.blt pc 71 then (bif Nat.beq pc 70 then J_iadd 71 else jbad) else (bif Nat.beq pc 71 then J_iaload 72 else jbad))) else (bif Nat.blt pc 77 then (bif Nat.blt pc 74 then (bif Nat.beq pc 72 then J_iconst (-9) 74 else jbad) else (bif Nat.beq pc 74 then J_iceq 81 77 else jbad)) else (bif Nat.blt pc 78 then (bif Nat.beq pc 77 then J_iconst 1 78 else jbad) else (bif Nat.beq pc 78 then J_goto 82 else jbad)))) else (bif Nat.blt pc 84 then (bif Nat.blt pc 82 then (bif Nat.beq pc 81 then J_iconst 0 82 else jbad) else (bif Nat.blt pc 83 then (bif Nat.beq pc 82 then J_iadd 83 else jbad) else (bif Nat.beq pc 83 then J_istore 3 84 else jbad))) else (bif Nat.blt pc 90 then (bif Nat.blt pc 87 then (bif Nat.beq pc 84 then J_iinc 4 1 87 else jbad) else (bif Nat.beq pc 87 then J_goto 53 else jbad)) else (bif Nat.blt pc 91 then (bif Nat.beq pc 90 then J_iload 3 91 else jbad) else (bif Nat.beq pc 91 then J_ireturn 0 0 else jbad)))))
theorem ftl_X7_plug_68 : F_X7_plug_68 68 = J_iload 4 70 := rfl
theorem ftl_X7_plug_70 : F_X7_plug_68 70 = J_iadd 71 := rfl
theorem ftl_X7_plug_71 : F_X7_plug_68 71 = J_iaload 72 := rfl
theorem ftl_X7_plug_72 : F_X7_plug_68 72 = J_iconst (-9) 74 := rfl
theorem ftl_X7_plug_74 : F_X7_plug_68 74 = J_iceq 81 77 := rfl
theorem ftl_X7_plug_77 : F_X7_plug_68 77 = J_iconst 1 78 := rfl
theorem ftl_X7_plug_78 : F_X7_plug_68 78 = J_goto 82 := rfl
theorem ftl_X7_plug_81 : F_X7_plug_68 81 = J_iconst 0 82 := rfl
theorem ftl_X7_plug_82 : F_X7_plug_68 82 = J_iadd 83 := rfl
theorem ftl_X7_plug_83 : F_X7_plug_68 83 = J_istore 3 84 := rfl
theorem ftl_X7_plug_84 : F_X7_plug_68 84 = J_iinc 4 1 87 := rfl
theorem ftl_X7_plug_87 : F_X7_plug_68 87 = J_goto 53 := rfl
theorem ftl_X7_plug_90 : F_X7_plug_68 90 = J_iload 3 91 := rfl
theorem ftl_X7_plug_91 : F_X7_plug_68 91 = J_ireturn 0 0 := rfl
theorem F_X7_plug_68_ok : jOK Y_X7_plug none (F_X7_plug_68) := (jOK_node (jOK_node (jOK_node (jOK_leaf (sn_iload dX7_plug_68 rfl)) (jOK_node (jOK_leaf (sn_iadd dX7_plug_70 rfl)) (jOK_leaf (sn_iaload dX7_plug_71 rfl)))) (jOK_node (jOK_node (jOK_leaf (sn_bipush dX7_plug_72 rfl rfl)) (jOK_leaf (sn_iceq dX7_plug_74 rfl rfl))) (jOK_node (jOK_leaf (sn_iconst dX7_plug_77 rfl rfl)) (jOK_leaf (sn_goto dX7_plug_78 rfl))))) (jOK_node (jOK_node (jOK_leaf (sn_iconst dX7_plug_81 rfl rfl)) (jOK_node (jOK_leaf (sn_iadd dX7_plug_82 rfl)) (jOK_leaf (sn_istore_n dX7_plug_83 rfl rfl (by decide))))) (jOK_node (jOK_node (jOK_leaf (sn_iinc dX7_plug_84 rfl rfl (by decide))) (jOK_leaf (sn_goto dX7_plug_87 rfl))) (jOK_node (jOK_leaf (sn_iload_n dX7_plug_90 rfl rfl)) (jOK_leaf (sn_ireturn dX7_plug_91 rfl rfl))))))
def F_X7_plug_45_91 : Nat → jT := fun pc => bif Nat.blt pc 68 then F_X7_plug_45 pc else F_X7_plug_68 pc
theorem F_X7_plug_45_91_l {pc : Nat} (h : Nat.blt pc 68 = true) : F_X7_plug_45_91 pc = F_X7_plug_45 pc := by unfold F_X7_plug_45_91; rw [h]; rfl
theorem F_X7_plug_45_91_r {pc : Nat} (h : Nat.blt pc 68 = false) : F_X7_plug_45_91 pc = F_X7_plug_68 pc := by unfold F_X7_plug_45_91; rw [h]; rfl
theorem F_X7_plug_45_91_ok : jOK Y_X7_plug none (F_X7_plug_45_91) := jOK_node (F_X7_plug_45_ok) (F_X7_plug_68_ok)
def F_X7_plug_0_91 : Nat → jT := fun pc => bif Nat.blt pc 45 then F_X7_plug_0_44 pc else F_X7_plug_45_91 pc
theorem F_X7_plug_0_91_l {pc : Nat} (h : Nat.blt pc 45 = true) : F_X7_plug_0_91 pc = F_X7_plug_0_44 pc := by unfold F_X7_plug_0_91; rw [h]; rfl
theorem F_X7_plug_0_91_r {pc : Nat} (h : Nat.blt pc 45 = false) : F_X7_plug_0_91 pc = F_X7_plug_45_91 pc := by unfold F_X7_plug_0_91; rw [h]; rfl
theorem F_X7_plug_0_91_ok : jOK Y_X7_plug none (F_X7_plug_0_91) := jOK_node (F_X7_plug_0_44_ok) (F_X7_plug_45_91_ok)
def F_X7_plug : Nat → jT := F_X7_plug_0_91
theorem OK_X7_plug : jOK Y_X7_plug none (F_X7_plug) := F_X7_plug_0_91_ok
theorem ft_X7_plug_0 : F_X7_plug 0 = J_aload 0 1 := (F_X7_plug_0_91_l rfl).trans ((F_X7_plug_0_44_l rfl).trans (ftl_X7_plug_0))
theorem ft_X7_plug_1 : F_X7_plug 1 = J_iload 1 2 := (F_X7_plug_0_91_l rfl).trans ((F_X7_plug_0_44_l rfl).trans (ftl_X7_plug_1))
theorem ft_X7_plug_2 : F_X7_plug 2 = J_callV 7 S_X7_isPost 1 5 := (F_X7_plug_0_91_l rfl).trans ((F_X7_plug_0_44_l rfl).trans (ftl_X7_plug_2))
theorem ft_X7_plug_5 : F_X7_plug 5 = J_ifeq 16 8 := (F_X7_plug_0_91_l rfl).trans ((F_X7_plug_0_44_l rfl).trans (ftl_X7_plug_5))
theorem ft_X7_plug_8 : F_X7_plug 8 = J_aload 0 9 := (F_X7_plug_0_91_l rfl).trans ((F_X7_plug_0_44_l rfl).trans (ftl_X7_plug_8))
theorem ft_X7_plug_9 : F_X7_plug 9 = J_iload 2 10 := (F_X7_plug_0_91_l rfl).trans ((F_X7_plug_0_44_l rfl).trans (ftl_X7_plug_9))
theorem ft_X7_plug_10 : F_X7_plug 10 = J_callV 7 S_X7_isCar 1 13 := (F_X7_plug_0_91_l rfl).trans ((F_X7_plug_0_44_l rfl).trans (ftl_X7_plug_10))
theorem ft_X7_plug_13 : F_X7_plug 13 = J_ifne 18 16 := (F_X7_plug_0_91_l rfl).trans ((F_X7_plug_0_44_l rfl).trans (ftl_X7_plug_13))
theorem ft_X7_plug_16 : F_X7_plug 16 = J_iconst (-1) 17 := (F_X7_plug_0_91_l rfl).trans ((F_X7_plug_0_44_l rfl).trans (ftl_X7_plug_16))
theorem ft_X7_plug_17 : F_X7_plug 17 = J_ireturn 0 0 := (F_X7_plug_0_91_l rfl).trans ((F_X7_plug_0_44_l rfl).trans (ftl_X7_plug_17))
theorem ft_X7_plug_18 : F_X7_plug 18 = J_aload 0 19 := (F_X7_plug_0_91_l rfl).trans ((F_X7_plug_0_44_l rfl).trans (ftl_X7_plug_18))
theorem ft_X7_plug_19 : F_X7_plug 19 = J_aload 0 20 := (F_X7_plug_0_91_l rfl).trans ((F_X7_plug_0_44_l rfl).trans (ftl_X7_plug_19))
theorem ft_X7_plug_20 : F_X7_plug 20 = J_getfield 7 10 23 := (F_X7_plug_0_91_l rfl).trans ((F_X7_plug_0_44_l rfl).trans (ftl_X7_plug_20))
theorem ft_X7_plug_23 : F_X7_plug 23 = J_iload 1 24 := (F_X7_plug_0_91_l rfl).trans ((F_X7_plug_0_44_r rfl).trans (ftl_X7_plug_23))
theorem ft_X7_plug_24 : F_X7_plug 24 = J_iload 2 25 := (F_X7_plug_0_91_l rfl).trans ((F_X7_plug_0_44_r rfl).trans (ftl_X7_plug_24))
theorem ft_X7_plug_25 : F_X7_plug 25 = J_callV 7 S_X7_mayPlug 3 28 := (F_X7_plug_0_91_l rfl).trans ((F_X7_plug_0_44_r rfl).trans (ftl_X7_plug_25))
theorem ft_X7_plug_28 : F_X7_plug 28 = J_ifne 34 31 := (F_X7_plug_0_91_l rfl).trans ((F_X7_plug_0_44_r rfl).trans (ftl_X7_plug_28))
theorem ft_X7_plug_31 : F_X7_plug 31 = J_iconst (-3) 33 := (F_X7_plug_0_91_l rfl).trans ((F_X7_plug_0_44_r rfl).trans (ftl_X7_plug_31))
theorem ft_X7_plug_33 : F_X7_plug 33 = J_ireturn 0 0 := (F_X7_plug_0_91_l rfl).trans ((F_X7_plug_0_44_r rfl).trans (ftl_X7_plug_33))
theorem ft_X7_plug_34 : F_X7_plug 34 = J_aload 0 35 := (F_X7_plug_0_91_l rfl).trans ((F_X7_plug_0_44_r rfl).trans (ftl_X7_plug_34))
theorem ft_X7_plug_35 : F_X7_plug 35 = J_callV 7 S_X7_note 0 38 := (F_X7_plug_0_91_l rfl).trans ((F_X7_plug_0_44_r rfl).trans (ftl_X7_plug_35))
theorem ft_X7_plug_38 : F_X7_plug 38 = J_aload 0 39 := (F_X7_plug_0_91_l rfl).trans ((F_X7_plug_0_44_r rfl).trans (ftl_X7_plug_38))
theorem ft_X7_plug_39 : F_X7_plug 39 = J_aload 0 40 := (F_X7_plug_0_91_l rfl).trans ((F_X7_plug_0_44_r rfl).trans (ftl_X7_plug_39))
theorem ft_X7_plug_40 : F_X7_plug 40 = J_getfield 7 10 43 := (F_X7_plug_0_91_l rfl).trans ((F_X7_plug_0_44_r rfl).trans (ftl_X7_plug_40))
theorem ft_X7_plug_43 : F_X7_plug 43 = J_iload 1 44 := (F_X7_plug_0_91_l rfl).trans ((F_X7_plug_0_44_r rfl).trans (ftl_X7_plug_43))
theorem ft_X7_plug_44 : F_X7_plug 44 = J_iload 2 45 := (F_X7_plug_0_91_l rfl).trans ((F_X7_plug_0_44_r rfl).trans (ftl_X7_plug_44))
theorem ft_X7_plug_45 : F_X7_plug 45 = J_callV 7 S_X7_plugOn 3 48 := (F_X7_plug_0_91_r rfl).trans ((F_X7_plug_45_91_l rfl).trans (ftl_X7_plug_45))
theorem ft_X7_plug_48 : F_X7_plug 48 = J_iconst 0 49 := (F_X7_plug_0_91_r rfl).trans ((F_X7_plug_45_91_l rfl).trans (ftl_X7_plug_48))
theorem ft_X7_plug_49 : F_X7_plug 49 = J_istore 3 50 := (F_X7_plug_0_91_r rfl).trans ((F_X7_plug_45_91_l rfl).trans (ftl_X7_plug_49))
theorem ft_X7_plug_50 : F_X7_plug 50 = J_iconst 0 51 := (F_X7_plug_0_91_r rfl).trans ((F_X7_plug_45_91_l rfl).trans (ftl_X7_plug_50))
theorem ft_X7_plug_51 : F_X7_plug 51 = J_istore 4 53 := (F_X7_plug_0_91_r rfl).trans ((F_X7_plug_45_91_l rfl).trans (ftl_X7_plug_51))
theorem ft_X7_plug_53 : F_X7_plug 53 = J_iload 4 55 := (F_X7_plug_0_91_r rfl).trans ((F_X7_plug_45_91_l rfl).trans (ftl_X7_plug_53))
theorem ft_X7_plug_55 : F_X7_plug 55 = J_aload 0 56 := (F_X7_plug_0_91_r rfl).trans ((F_X7_plug_45_91_l rfl).trans (ftl_X7_plug_55))
theorem ft_X7_plug_56 : F_X7_plug 56 = J_getfield 7 2 59 := (F_X7_plug_0_91_r rfl).trans ((F_X7_plug_45_91_l rfl).trans (ftl_X7_plug_56))
theorem ft_X7_plug_59 : F_X7_plug 59 = J_icge 90 62 := (F_X7_plug_0_91_r rfl).trans ((F_X7_plug_45_91_l rfl).trans (ftl_X7_plug_59))
theorem ft_X7_plug_62 : F_X7_plug 62 = J_iload 3 63 := (F_X7_plug_0_91_r rfl).trans ((F_X7_plug_45_91_l rfl).trans (ftl_X7_plug_62))
theorem ft_X7_plug_63 : F_X7_plug 63 = J_aload 0 64 := (F_X7_plug_0_91_r rfl).trans ((F_X7_plug_45_91_l rfl).trans (ftl_X7_plug_63))
theorem ft_X7_plug_64 : F_X7_plug 64 = J_getfield 7 10 67 := (F_X7_plug_0_91_r rfl).trans ((F_X7_plug_45_91_l rfl).trans (ftl_X7_plug_64))
theorem ft_X7_plug_67 : F_X7_plug 67 = J_iconst 0 68 := (F_X7_plug_0_91_r rfl).trans ((F_X7_plug_45_91_l rfl).trans (ftl_X7_plug_67))
theorem ft_X7_plug_68 : F_X7_plug 68 = J_iload 4 70 := (F_X7_plug_0_91_r rfl).trans ((F_X7_plug_45_91_r rfl).trans (ftl_X7_plug_68))
theorem ft_X7_plug_70 : F_X7_plug 70 = J_iadd 71 := (F_X7_plug_0_91_r rfl).trans ((F_X7_plug_45_91_r rfl).trans (ftl_X7_plug_70))
theorem ft_X7_plug_71 : F_X7_plug 71 = J_iaload 72 := (F_X7_plug_0_91_r rfl).trans ((F_X7_plug_45_91_r rfl).trans (ftl_X7_plug_71))
theorem ft_X7_plug_72 : F_X7_plug 72 = J_iconst (-9) 74 := (F_X7_plug_0_91_r rfl).trans ((F_X7_plug_45_91_r rfl).trans (ftl_X7_plug_72))
theorem ft_X7_plug_74 : F_X7_plug 74 = J_iceq 81 77 := (F_X7_plug_0_91_r rfl).trans ((F_X7_plug_45_91_r rfl).trans (ftl_X7_plug_74))
theorem ft_X7_plug_77 : F_X7_plug 77 = J_iconst 1 78 := (F_X7_plug_0_91_r rfl).trans ((F_X7_plug_45_91_r rfl).trans (ftl_X7_plug_77))
theorem ft_X7_plug_78 : F_X7_plug 78 = J_goto 82 := (F_X7_plug_0_91_r rfl).trans ((F_X7_plug_45_91_r rfl).trans (ftl_X7_plug_78))
theorem ft_X7_plug_81 : F_X7_plug 81 = J_iconst 0 82 := (F_X7_plug_0_91_r rfl).trans ((F_X7_plug_45_91_r rfl).trans (ftl_X7_plug_81))
theorem ft_X7_plug_82 : F_X7_plug 82 = J_iadd 83 := (F_X7_plug_0_91_r rfl).trans ((F_X7_plug_45_91_r rfl).trans (ftl_X7_plug_82))
theorem ft_X7_plug_83 : F_X7_plug 83 = J_istore 3 84 := (F_X7_plug_0_91_r rfl).trans ((F_X7_plug_45_91_r rfl).trans (ftl_X7_plug_83))
theorem ft_X7_plug_84 : F_X7_plug 84 = J_iinc 4 1 87 := (F_X7_plug_0_91_r rfl).trans ((F_X7_plug_45_91_r rfl).trans (ftl_X7_plug_84))
theorem ft_X7_plug_87 : F_X7_plug 87 = J_goto 53 := (F_X7_plug_0_91_r rfl).trans ((F_X7_plug_45_91_r rfl).trans (ftl_X7_plug_87))
theorem ft_X7_plug_90 : F_X7_plug 90 = J_iload 3 91 := (F_X7_plug_0_91_r rfl).trans ((F_X7_plug_45_91_r rfl).trans (ftl_X7_plug_90))
theorem ft_X7_plug_91 : F_X7_plug 91 = J_ireturn 0 0 := (F_X7_plug_0_91_r rfl).trans ((F_X7_plug_45_91_r rfl).trans (ftl_X7_plug_91))
theorem lp_X7_plug {Q : jQ} {C : Nat → Nat → Int32} {z : Nat → Int64} {nb P K : Nat} {p c : Value} (s : SR C P K) (h : Q (some (.int (cnF (C 78) P))) (memS 94 C z)) :
    ∀ k j, j + k = P → Rn Y_X7_plug none Q 53 [some (.ref 71), some p, some c, some (.int (cnF (C 78) j)), some (.int (nI j))] [] (memS 94 C z) (nb, 0, 0) := by
  have h4 := s.h4
  intro k
  induction k with
  | zero =>
    intro j hj
    have hc : (nI P ≤ nI j) = True := eq_true (nI_le (by omega) (by omega))
    refine jrun_first OK_X7_plug (C := [53]) 60 ?_
    simp -implicitDefEqProofs only [jr_0, jr_1, jr_2, j_iconst, j_lconst, j_iload0, j_aload0, j_istore0, j_astore0, j_iinc0, j_iload1, j_aload1, j_istore1, j_astore1, j_iinc1, j_iload2, j_aload2, j_istore2, j_astore2, j_iinc2, j_iload3, j_aload3, j_istore3, j_astore3, j_iinc3, j_iload4, j_aload4, j_istore4, j_astore4, j_iinc4, j_iload5, j_aload5, j_istore5, j_astore5, j_iinc5, j_iload6, j_aload6, j_istore6, j_astore6, j_iinc6, j_iload7, j_aload7, j_istore7, j_astore7, j_iinc7, j_iload8, j_aload8, j_istore8, j_astore8, j_iinc8, j_iadd, j_isub, j_imul, j_iand, j_ior, j_ixor, j_ishl, j_ishr, j_iushr, j_idiv, j_irem, j_ineg, j_ladd, j_lmul, j_land, j_lor, j_lcmp, j_lushr, j_lshl, j_i2l, j_l2i, j_dupI, j_dupR, j_popI, j_dup2, j_ifeq, j_iceq, j_ifne, j_icne, j_iflt, j_iclt, j_ifge, j_icge, j_ifgt, j_icgt, j_ifle, j_icle, j_goto, j_tsw, j_sw0, j_sw1, j_ireturn, j_zreturn, j_lreturn, j_return, j_getfield, j_putI, j_putJ, j_putR, j_iaload, j_baload, j_iastore, j_bastore, j_aaload, j_q, j_aastore, j_acopy, j_mmin, j_mmax, j_mabs, j_objinit, j_new, j_newI, j_newQ, j_sld, j_slen, j_callV0, j_callI0, j_callS0, j_callV1, j_callI1, j_callS1, j_callV2, j_callI2, j_callS2, j_callV3, j_callS3, j_callV4, j_callS4, j_callV5, j_callS5, j_pushS, j_pushN, j_sh0, j_sh1, j_sh2, j_sh3, j_sh4, Int32.reduceAdd, Int32.reduceMul, Int32.reduceSub, Int32.reduceLT, Int32.reduceLE, eq_self, i32_10, i32_01, ne_eq, hrow_s, hrow_n, ne10, ne100, ne1000, ne7, ne4, ne14, ne9973, or_true, true_or, or_false, false_or, not_true_eq_false, not_false_eq_true, false_implies, implies_true, and_true, forall_const, true_implies, jargs_n, jargs_r, jargs_i, List.cons_append, List.nil_append, true_and, Nat.reduceEqDiff, reduceIte, ft_X7_plug_0, ft_X7_plug_1, ft_X7_plug_2, ft_X7_plug_5, ft_X7_plug_8, ft_X7_plug_9, ft_X7_plug_10, ft_X7_plug_13, ft_X7_plug_16, ft_X7_plug_17, ft_X7_plug_18, ft_X7_plug_19, ft_X7_plug_20, ft_X7_plug_23, ft_X7_plug_24, ft_X7_plug_25, ft_X7_plug_28, ft_X7_plug_31, ft_X7_plug_33, ft_X7_plug_34, ft_X7_plug_35, ft_X7_plug_38, ft_X7_plug_39, ft_X7_plug_40, ft_X7_plug_43, ft_X7_plug_44, ft_X7_plug_45, ft_X7_plug_48, ft_X7_plug_49, ft_X7_plug_50, ft_X7_plug_51, ft_X7_plug_53, ft_X7_plug_55, ft_X7_plug_56, ft_X7_plug_59, ft_X7_plug_62, ft_X7_plug_63, ft_X7_plug_64, ft_X7_plug_67, ft_X7_plug_68, ft_X7_plug_70, ft_X7_plug_71, ft_X7_plug_72, ft_X7_plug_74, ft_X7_plug_77, ft_X7_plug_78, ft_X7_plug_81, ft_X7_plug_82, ft_X7_plug_83, ft_X7_plug_84, ft_X7_plug_87, ft_X7_plug_90, ft_X7_plug_91, fl_71_2, s.mP, hc]
    rw [show j = P by omega]
    exact h
  | succ k ih =>
    intro j hj
    have hc : (nI P ≤ nI j) = False := eq_false (nI_ge (by omega) (by omega))
    have hk := ih (j + 1) (by omega)
    unfold cnF at hk
    rw [Nat.zero_add] at hk
    refine jrun_first OK_X7_plug (C := [53]) 60 ?_
    simp -implicitDefEqProofs only [jr_0, jr_1, jr_2, j_iconst, j_lconst, j_iload0, j_aload0, j_istore0, j_astore0, j_iinc0, j_iload1, j_aload1, j_istore1, j_astore1, j_iinc1, j_iload2, j_aload2, j_istore2, j_astore2, j_iinc2, j_iload3, j_aload3, j_istore3, j_astore3, j_iinc3, j_iload4, j_aload4, j_istore4, j_astore4, j_iinc4, j_iload5, j_aload5, j_istore5, j_astore5, j_iinc5, j_iload6, j_aload6, j_istore6, j_astore6, j_iinc6, j_iload7, j_aload7, j_istore7, j_astore7, j_iinc7, j_iload8, j_aload8, j_istore8, j_astore8, j_iinc8, j_iadd, j_isub, j_imul, j_iand, j_ior, j_ixor, j_ishl, j_ishr, j_iushr, j_idiv, j_irem, j_ineg, j_ladd, j_lmul, j_land, j_lor, j_lcmp, j_lushr, j_lshl, j_i2l, j_l2i, j_dupI, j_dupR, j_popI, j_dup2, j_ifeq, j_iceq, j_ifne, j_icne, j_iflt, j_iclt, j_ifge, j_icge, j_ifgt, j_icgt, j_ifle, j_icle, j_goto, j_tsw, j_sw0, j_sw1, j_ireturn, j_zreturn, j_lreturn, j_return, j_getfield, j_putI, j_putJ, j_putR, j_iaload, j_baload, j_iastore, j_bastore, j_aaload, j_q, j_aastore, j_acopy, j_mmin, j_mmax, j_mabs, j_objinit, j_new, j_newI, j_newQ, j_sld, j_slen, j_callV0, j_callI0, j_callS0, j_callV1, j_callI1, j_callS1, j_callV2, j_callI2, j_callS2, j_callV3, j_callS3, j_callV4, j_callS4, j_callV5, j_callS5, j_pushS, j_pushN, j_sh0, j_sh1, j_sh2, j_sh3, j_sh4, Int32.reduceAdd, Int32.reduceMul, Int32.reduceSub, Int32.reduceLT, Int32.reduceLE, eq_self, i32_10, i32_01, ne_eq, hrow_s, hrow_n, ne10, ne100, ne1000, ne7, ne4, ne14, ne9973, or_true, true_or, or_false, false_or, not_true_eq_false, not_false_eq_true, false_implies, implies_true, and_true, forall_const, true_implies, jargs_n, jargs_r, jargs_i, List.cons_append, List.nil_append, true_and, Nat.reduceEqDiff, reduceIte, ft_X7_plug_0, ft_X7_plug_1, ft_X7_plug_2, ft_X7_plug_5, ft_X7_plug_8, ft_X7_plug_9, ft_X7_plug_10, ft_X7_plug_13, ft_X7_plug_16, ft_X7_plug_17, ft_X7_plug_18, ft_X7_plug_19, ft_X7_plug_20, ft_X7_plug_23, ft_X7_plug_24, ft_X7_plug_25, ft_X7_plug_28, ft_X7_plug_31, ft_X7_plug_33, ft_X7_plug_34, ft_X7_plug_35, ft_X7_plug_38, ft_X7_plug_39, ft_X7_plug_40, ft_X7_plug_43, ft_X7_plug_44, ft_X7_plug_45, ft_X7_plug_48, ft_X7_plug_49, ft_X7_plug_50, ft_X7_plug_51, ft_X7_plug_53, ft_X7_plug_55, ft_X7_plug_56, ft_X7_plug_59, ft_X7_plug_62, ft_X7_plug_63, ft_X7_plug_64, ft_X7_plug_67, ft_X7_plug_68, ft_X7_plug_70, ft_X7_plug_71, ft_X7_plug_72, ft_X7_plug_74, ft_X7_plug_77, ft_X7_plug_78, ft_X7_plug_81, ft_X7_plug_82, ft_X7_plug_83, ft_X7_plug_84, ft_X7_plug_87, ft_X7_plug_90, ft_X7_plug_91, fl_71_2, fl_71_10, s.mP, hc, ar_0 jmr78 (show j < 4 by omega), nI_1]
    by_cases g : C 78 j = -9
    · rw [pick_t g] at hk
      simp only [g, not_true_eq_false, not_false_eq_true, true_implies, false_implies, implies_true, and_true, true_and, forall_const]
      exact hk
    · rw [pick_f g] at hk
      simp only [g, not_true_eq_false, not_false_eq_true, true_implies, false_implies, implies_true, and_true, true_and, forall_const]
      exact hk
theorem ok_X7_plug : jMeets Y_X7_plug S_X7_plug := by
  intro nb vs mem Q h
  obtain ⟨C, C0, z, P, K, nx, ct, B, p, c, rfl, rfl, b, s0, iv, hy, hn⟩ := h
  obtain ⟨e3, e4, e5⟩ := b.2.2.2.1
  have h4 := b.s.h4
  have h6 := b.s.h6
  refine Ok.run OK_X7_plug [53] 60 [none, none] pn7 (Nat.le_of_ble_eq_true rfl) rfl ?_
  unfold okPlug at hy hn
  by_cases g1 : okPost C0 p
  · by_cases g2 : okCar C0 c
    · obtain ⟨j, hj, rfl⟩ := okPost_at s0 g1
      obtain ⟨i, hi, rfl⟩ := okCar_at s0 g2
      have hj4 : j < 4 := by omega
      rw [pick_t ⟨g1, g2⟩] at hn
      simp -implicitDefEqProofs only [jr_0, jr_1, jr_2, j_iconst, j_lconst, j_iload0, j_aload0, j_istore0, j_astore0, j_iinc0, j_iload1, j_aload1, j_istore1, j_astore1, j_iinc1, j_iload2, j_aload2, j_istore2, j_astore2, j_iinc2, j_iload3, j_aload3, j_istore3, j_astore3, j_iinc3, j_iload4, j_aload4, j_istore4, j_astore4, j_iinc4, j_iload5, j_aload5, j_istore5, j_astore5, j_iinc5, j_iload6, j_aload6, j_istore6, j_astore6, j_iinc6, j_iload7, j_aload7, j_istore7, j_astore7, j_iinc7, j_iload8, j_aload8, j_istore8, j_astore8, j_iinc8, j_iadd, j_isub, j_imul, j_iand, j_ior, j_ixor, j_ishl, j_ishr, j_iushr, j_idiv, j_irem, j_ineg, j_ladd, j_lmul, j_land, j_lor, j_lcmp, j_lushr, j_lshl, j_i2l, j_l2i, j_dupI, j_dupR, j_popI, j_dup2, j_ifeq, j_iceq, j_ifne, j_icne, j_iflt, j_iclt, j_ifge, j_icge, j_ifgt, j_icgt, j_ifle, j_icle, j_goto, j_tsw, j_sw0, j_sw1, j_ireturn, j_zreturn, j_lreturn, j_return, j_getfield, j_putI, j_putJ, j_putR, j_iaload, j_baload, j_iastore, j_bastore, j_aaload, j_q, j_aastore, j_acopy, j_mmin, j_mmax, j_mabs, j_objinit, j_new, j_newI, j_newQ, j_sld, j_slen, j_callV0, j_callI0, j_callS0, j_callV1, j_callI1, j_callS1, j_callV2, j_callI2, j_callS2, j_callV3, j_callS3, j_callV4, j_callS4, j_callV5, j_callS5, j_pushS, j_pushN, j_sh0, j_sh1, j_sh2, j_sh3, j_sh4, Int32.reduceAdd, Int32.reduceMul, Int32.reduceSub, Int32.reduceLT, Int32.reduceLE, eq_self, i32_10, i32_01, ne_eq, hrow_s, hrow_n, ne10, ne100, ne1000, ne7, ne4, ne14, ne9973, or_true, true_or, or_false, false_or, not_true_eq_false, not_false_eq_true, false_implies, implies_true, and_true, forall_const, true_implies, jargs_n, jargs_r, jargs_i, List.cons_append, List.nil_append, true_and, Nat.reduceEqDiff, reduceIte, ft_X7_plug_0, ft_X7_plug_1, ft_X7_plug_2, ft_X7_plug_5, ft_X7_plug_8, ft_X7_plug_9, ft_X7_plug_10, ft_X7_plug_13, ft_X7_plug_16, ft_X7_plug_17, ft_X7_plug_18, ft_X7_plug_19, ft_X7_plug_20, ft_X7_plug_23, ft_X7_plug_24, ft_X7_plug_25, ft_X7_plug_28, ft_X7_plug_31, ft_X7_plug_33, ft_X7_plug_34, ft_X7_plug_35, ft_X7_plug_38, ft_X7_plug_39, ft_X7_plug_40, ft_X7_plug_43, ft_X7_plug_44, ft_X7_plug_45, ft_X7_plug_48, ft_X7_plug_49, ft_X7_plug_50, ft_X7_plug_51, ft_X7_plug_53, ft_X7_plug_55, ft_X7_plug_56, ft_X7_plug_59, ft_X7_plug_62, ft_X7_plug_63, ft_X7_plug_64, ft_X7_plug_67, ft_X7_plug_68, ft_X7_plug_70, ft_X7_plug_71, ft_X7_plug_72, ft_X7_plug_74, ft_X7_plug_77, ft_X7_plug_78, ft_X7_plug_81, ft_X7_plug_82, ft_X7_plug_83, ft_X7_plug_84, ft_X7_plug_87, ft_X7_plug_90, ft_X7_plug_91, rc_71, fl_71_10, s_X7_isPost b.s, s_X7_isCar b.s, okPost_c e3, okCar_c e3, zb_t g1, zb_t g2, ne1_0]
      refine s_X7_mayPlug jmr78 (by rw [b.e]; exact iv) hj4 (nI_n9 (by omega)) ?_
      rw [b.e]
      by_cases g3 : rget (C0 9) (nI j) 2 = 0 ∧ postOfF (C0 9) (nI i) = -9
      · have hy := hy ⟨⟨g1, g2⟩, g3⟩
        simp -implicitDefEqProofs only [jr_0, jr_1, jr_2, j_iconst, j_lconst, j_iload0, j_aload0, j_istore0, j_astore0, j_iinc0, j_iload1, j_aload1, j_istore1, j_astore1, j_iinc1, j_iload2, j_aload2, j_istore2, j_astore2, j_iinc2, j_iload3, j_aload3, j_istore3, j_astore3, j_iinc3, j_iload4, j_aload4, j_istore4, j_astore4, j_iinc4, j_iload5, j_aload5, j_istore5, j_astore5, j_iinc5, j_iload6, j_aload6, j_istore6, j_astore6, j_iinc6, j_iload7, j_aload7, j_istore7, j_astore7, j_iinc7, j_iload8, j_aload8, j_istore8, j_astore8, j_iinc8, j_iadd, j_isub, j_imul, j_iand, j_ior, j_ixor, j_ishl, j_ishr, j_iushr, j_idiv, j_irem, j_ineg, j_ladd, j_lmul, j_land, j_lor, j_lcmp, j_lushr, j_lshl, j_i2l, j_l2i, j_dupI, j_dupR, j_popI, j_dup2, j_ifeq, j_iceq, j_ifne, j_icne, j_iflt, j_iclt, j_ifge, j_icge, j_ifgt, j_icgt, j_ifle, j_icle, j_goto, j_tsw, j_sw0, j_sw1, j_ireturn, j_zreturn, j_lreturn, j_return, j_getfield, j_putI, j_putJ, j_putR, j_iaload, j_baload, j_iastore, j_bastore, j_aaload, j_q, j_aastore, j_acopy, j_mmin, j_mmax, j_mabs, j_objinit, j_new, j_newI, j_newQ, j_sld, j_slen, j_callV0, j_callI0, j_callS0, j_callV1, j_callI1, j_callS1, j_callV2, j_callI2, j_callS2, j_callV3, j_callS3, j_callV4, j_callS4, j_callV5, j_callS5, j_pushS, j_pushN, j_sh0, j_sh1, j_sh2, j_sh3, j_sh4, Int32.reduceAdd, Int32.reduceMul, Int32.reduceSub, Int32.reduceLT, Int32.reduceLE, eq_self, i32_10, i32_01, ne_eq, hrow_s, hrow_n, ne10, ne100, ne1000, ne7, ne4, ne14, ne9973, or_true, true_or, or_false, false_or, not_true_eq_false, not_false_eq_true, false_implies, implies_true, and_true, forall_const, true_implies, jargs_n, jargs_r, jargs_i, List.cons_append, List.nil_append, true_and, Nat.reduceEqDiff, reduceIte, ft_X7_plug_0, ft_X7_plug_1, ft_X7_plug_2, ft_X7_plug_5, ft_X7_plug_8, ft_X7_plug_9, ft_X7_plug_10, ft_X7_plug_13, ft_X7_plug_16, ft_X7_plug_17, ft_X7_plug_18, ft_X7_plug_19, ft_X7_plug_20, ft_X7_plug_23, ft_X7_plug_24, ft_X7_plug_25, ft_X7_plug_28, ft_X7_plug_31, ft_X7_plug_33, ft_X7_plug_34, ft_X7_plug_35, ft_X7_plug_38, ft_X7_plug_39, ft_X7_plug_40, ft_X7_plug_43, ft_X7_plug_44, ft_X7_plug_45, ft_X7_plug_48, ft_X7_plug_49, ft_X7_plug_50, ft_X7_plug_51, ft_X7_plug_53, ft_X7_plug_55, ft_X7_plug_56, ft_X7_plug_59, ft_X7_plug_62, ft_X7_plug_63, ft_X7_plug_64, ft_X7_plug_67, ft_X7_plug_68, ft_X7_plug_70, ft_X7_plug_71, ft_X7_plug_72, ft_X7_plug_74, ft_X7_plug_77, ft_X7_plug_78, ft_X7_plug_81, ft_X7_plug_82, ft_X7_plug_83, ft_X7_plug_84, ft_X7_plug_87, ft_X7_plug_90, ft_X7_plug_91, zb_t g3, ne1_0, rc_71]
        refine s_X7_note b.2.2.2.2.1.1 b.2.2.2.2.1.2 b.2.2.2.2.2.1 b.2.2.2.2.2.2 fun C2 nt => ?_
        have f : ∀ i, i ≠ 13 → i ≠ 14 → C2 71 i = C 71 i := nt.1.2
        have r : ∀ a, a ≠ 80 → a ≠ 71 → C2 a = C a := nt.1.1
        have s2 : SR C2 P K := b.s.eq (r 3 (by decide) (by decide)) (r 4 (by decide) (by decide)) (r 5 (by decide) (by decide)) (f 2 (by decide) (by decide)) (f 4 (by decide) (by decide)) (f 9 (by decide) (by decide)) (r 73 (by decide) (by decide)) (r 74 (by decide) (by decide)) (r 75 (by decide) (by decide)) (r 76 (by decide) (by decide)) (r 77 (by decide) (by decide))
        have e78 : C2 78 = C0 9 := (r 78 (by decide) (by decide)).trans b.e
        have hI : Inv P K B (plugR (C0 9) (nI j) (nI i)) := by
          have g3' := g3.1
          rw [rgj_2 hj4] at g3'
          exact plugR_I iv hj h4 hi h6 g3' g3.2
        simp -implicitDefEqProofs only [jr_0, jr_1, jr_2, j_iconst, j_lconst, j_iload0, j_aload0, j_istore0, j_astore0, j_iinc0, j_iload1, j_aload1, j_istore1, j_astore1, j_iinc1, j_iload2, j_aload2, j_istore2, j_astore2, j_iinc2, j_iload3, j_aload3, j_istore3, j_astore3, j_iinc3, j_iload4, j_aload4, j_istore4, j_astore4, j_iinc4, j_iload5, j_aload5, j_istore5, j_astore5, j_iinc5, j_iload6, j_aload6, j_istore6, j_astore6, j_iinc6, j_iload7, j_aload7, j_istore7, j_astore7, j_iinc7, j_iload8, j_aload8, j_istore8, j_astore8, j_iinc8, j_iadd, j_isub, j_imul, j_iand, j_ior, j_ixor, j_ishl, j_ishr, j_iushr, j_idiv, j_irem, j_ineg, j_ladd, j_lmul, j_land, j_lor, j_lcmp, j_lushr, j_lshl, j_i2l, j_l2i, j_dupI, j_dupR, j_popI, j_dup2, j_ifeq, j_iceq, j_ifne, j_icne, j_iflt, j_iclt, j_ifge, j_icge, j_ifgt, j_icgt, j_ifle, j_icle, j_goto, j_tsw, j_sw0, j_sw1, j_ireturn, j_zreturn, j_lreturn, j_return, j_getfield, j_putI, j_putJ, j_putR, j_iaload, j_baload, j_iastore, j_bastore, j_aaload, j_q, j_aastore, j_acopy, j_mmin, j_mmax, j_mabs, j_objinit, j_new, j_newI, j_newQ, j_sld, j_slen, j_callV0, j_callI0, j_callS0, j_callV1, j_callI1, j_callS1, j_callV2, j_callI2, j_callS2, j_callV3, j_callS3, j_callV4, j_callS4, j_callV5, j_callS5, j_pushS, j_pushN, j_sh0, j_sh1, j_sh2, j_sh3, j_sh4, Int32.reduceAdd, Int32.reduceMul, Int32.reduceSub, Int32.reduceLT, Int32.reduceLE, eq_self, i32_10, i32_01, ne_eq, hrow_s, hrow_n, ne10, ne100, ne1000, ne7, ne4, ne14, ne9973, or_true, true_or, or_false, false_or, not_true_eq_false, not_false_eq_true, false_implies, implies_true, and_true, forall_const, true_implies, jargs_n, jargs_r, jargs_i, List.cons_append, List.nil_append, true_and, Nat.reduceEqDiff, reduceIte, ft_X7_plug_0, ft_X7_plug_1, ft_X7_plug_2, ft_X7_plug_5, ft_X7_plug_8, ft_X7_plug_9, ft_X7_plug_10, ft_X7_plug_13, ft_X7_plug_16, ft_X7_plug_17, ft_X7_plug_18, ft_X7_plug_19, ft_X7_plug_20, ft_X7_plug_23, ft_X7_plug_24, ft_X7_plug_25, ft_X7_plug_28, ft_X7_plug_31, ft_X7_plug_33, ft_X7_plug_34, ft_X7_plug_35, ft_X7_plug_38, ft_X7_plug_39, ft_X7_plug_40, ft_X7_plug_43, ft_X7_plug_44, ft_X7_plug_45, ft_X7_plug_48, ft_X7_plug_49, ft_X7_plug_50, ft_X7_plug_51, ft_X7_plug_53, ft_X7_plug_55, ft_X7_plug_56, ft_X7_plug_59, ft_X7_plug_62, ft_X7_plug_63, ft_X7_plug_64, ft_X7_plug_67, ft_X7_plug_68, ft_X7_plug_70, ft_X7_plug_71, ft_X7_plug_72, ft_X7_plug_74, ft_X7_plug_77, ft_X7_plug_78, ft_X7_plug_81, ft_X7_plug_82, ft_X7_plug_83, ft_X7_plug_84, ft_X7_plug_87, ft_X7_plug_90, ft_X7_plug_91, rc_71, fl_71_10, s_X7_plugOn jmr78 hj4, e78]
        have s3 : SR (hrow C2 78 (plugR (C0 9) (nI j) (nI i))) P K := s2.mo (Mo.rf.hr (Or.inl rfl)) (Or.inl rfl)
        refine lp_X7_plug s3 ?_ P 0 (by omega)
        rw [hrow_s, cnF_eq hI h4]
        exact hy C2 _ nt (Mo.rf.hr (Or.inl rfl)) hrow_s
      · have hn := hn fun q => g3 q.2
        simp -implicitDefEqProofs only [jr_0, jr_1, jr_2, j_iconst, j_lconst, j_iload0, j_aload0, j_istore0, j_astore0, j_iinc0, j_iload1, j_aload1, j_istore1, j_astore1, j_iinc1, j_iload2, j_aload2, j_istore2, j_astore2, j_iinc2, j_iload3, j_aload3, j_istore3, j_astore3, j_iinc3, j_iload4, j_aload4, j_istore4, j_astore4, j_iinc4, j_iload5, j_aload5, j_istore5, j_astore5, j_iinc5, j_iload6, j_aload6, j_istore6, j_astore6, j_iinc6, j_iload7, j_aload7, j_istore7, j_astore7, j_iinc7, j_iload8, j_aload8, j_istore8, j_astore8, j_iinc8, j_iadd, j_isub, j_imul, j_iand, j_ior, j_ixor, j_ishl, j_ishr, j_iushr, j_idiv, j_irem, j_ineg, j_ladd, j_lmul, j_land, j_lor, j_lcmp, j_lushr, j_lshl, j_i2l, j_l2i, j_dupI, j_dupR, j_popI, j_dup2, j_ifeq, j_iceq, j_ifne, j_icne, j_iflt, j_iclt, j_ifge, j_icge, j_ifgt, j_icgt, j_ifle, j_icle, j_goto, j_tsw, j_sw0, j_sw1, j_ireturn, j_zreturn, j_lreturn, j_return, j_getfield, j_putI, j_putJ, j_putR, j_iaload, j_baload, j_iastore, j_bastore, j_aaload, j_q, j_aastore, j_acopy, j_mmin, j_mmax, j_mabs, j_objinit, j_new, j_newI, j_newQ, j_sld, j_slen, j_callV0, j_callI0, j_callS0, j_callV1, j_callI1, j_callS1, j_callV2, j_callI2, j_callS2, j_callV3, j_callS3, j_callV4, j_callS4, j_callV5, j_callS5, j_pushS, j_pushN, j_sh0, j_sh1, j_sh2, j_sh3, j_sh4, Int32.reduceAdd, Int32.reduceMul, Int32.reduceSub, Int32.reduceLT, Int32.reduceLE, eq_self, i32_10, i32_01, ne_eq, hrow_s, hrow_n, ne10, ne100, ne1000, ne7, ne4, ne14, ne9973, or_true, true_or, or_false, false_or, not_true_eq_false, not_false_eq_true, false_implies, implies_true, and_true, forall_const, true_implies, jargs_n, jargs_r, jargs_i, List.cons_append, List.nil_append, true_and, Nat.reduceEqDiff, reduceIte, ft_X7_plug_0, ft_X7_plug_1, ft_X7_plug_2, ft_X7_plug_5, ft_X7_plug_8, ft_X7_plug_9, ft_X7_plug_10, ft_X7_plug_13, ft_X7_plug_16, ft_X7_plug_17, ft_X7_plug_18, ft_X7_plug_19, ft_X7_plug_20, ft_X7_plug_23, ft_X7_plug_24, ft_X7_plug_25, ft_X7_plug_28, ft_X7_plug_31, ft_X7_plug_33, ft_X7_plug_34, ft_X7_plug_35, ft_X7_plug_38, ft_X7_plug_39, ft_X7_plug_40, ft_X7_plug_43, ft_X7_plug_44, ft_X7_plug_45, ft_X7_plug_48, ft_X7_plug_49, ft_X7_plug_50, ft_X7_plug_51, ft_X7_plug_53, ft_X7_plug_55, ft_X7_plug_56, ft_X7_plug_59, ft_X7_plug_62, ft_X7_plug_63, ft_X7_plug_64, ft_X7_plug_67, ft_X7_plug_68, ft_X7_plug_70, ft_X7_plug_71, ft_X7_plug_72, ft_X7_plug_74, ft_X7_plug_77, ft_X7_plug_78, ft_X7_plug_81, ft_X7_plug_82, ft_X7_plug_83, ft_X7_plug_84, ft_X7_plug_87, ft_X7_plug_90, ft_X7_plug_91, zb_f g3]
        exact hn
    · rw [pick_f fun q => g2 q.2] at hn
      simp -implicitDefEqProofs only [jr_0, jr_1, jr_2, j_iconst, j_lconst, j_iload0, j_aload0, j_istore0, j_astore0, j_iinc0, j_iload1, j_aload1, j_istore1, j_astore1, j_iinc1, j_iload2, j_aload2, j_istore2, j_astore2, j_iinc2, j_iload3, j_aload3, j_istore3, j_astore3, j_iinc3, j_iload4, j_aload4, j_istore4, j_astore4, j_iinc4, j_iload5, j_aload5, j_istore5, j_astore5, j_iinc5, j_iload6, j_aload6, j_istore6, j_astore6, j_iinc6, j_iload7, j_aload7, j_istore7, j_astore7, j_iinc7, j_iload8, j_aload8, j_istore8, j_astore8, j_iinc8, j_iadd, j_isub, j_imul, j_iand, j_ior, j_ixor, j_ishl, j_ishr, j_iushr, j_idiv, j_irem, j_ineg, j_ladd, j_lmul, j_land, j_lor, j_lcmp, j_lushr, j_lshl, j_i2l, j_l2i, j_dupI, j_dupR, j_popI, j_dup2, j_ifeq, j_iceq, j_ifne, j_icne, j_iflt, j_iclt, j_ifge, j_icge, j_ifgt, j_icgt, j_ifle, j_icle, j_goto, j_tsw, j_sw0, j_sw1, j_ireturn, j_zreturn, j_lreturn, j_return, j_getfield, j_putI, j_putJ, j_putR, j_iaload, j_baload, j_iastore, j_bastore, j_aaload, j_q, j_aastore, j_acopy, j_mmin, j_mmax, j_mabs, j_objinit, j_new, j_newI, j_newQ, j_sld, j_slen, j_callV0, j_callI0, j_callS0, j_callV1, j_callI1, j_callS1, j_callV2, j_callI2, j_callS2, j_callV3, j_callS3, j_callV4, j_callS4, j_callV5, j_callS5, j_pushS, j_pushN, j_sh0, j_sh1, j_sh2, j_sh3, j_sh4, Int32.reduceAdd, Int32.reduceMul, Int32.reduceSub, Int32.reduceLT, Int32.reduceLE, eq_self, i32_10, i32_01, ne_eq, hrow_s, hrow_n, ne10, ne100, ne1000, ne7, ne4, ne14, ne9973, or_true, true_or, or_false, false_or, not_true_eq_false, not_false_eq_true, false_implies, implies_true, and_true, forall_const, true_implies, jargs_n, jargs_r, jargs_i, List.cons_append, List.nil_append, true_and, Nat.reduceEqDiff, reduceIte, ft_X7_plug_0, ft_X7_plug_1, ft_X7_plug_2, ft_X7_plug_5, ft_X7_plug_8, ft_X7_plug_9, ft_X7_plug_10, ft_X7_plug_13, ft_X7_plug_16, ft_X7_plug_17, ft_X7_plug_18, ft_X7_plug_19, ft_X7_plug_20, ft_X7_plug_23, ft_X7_plug_24, ft_X7_plug_25, ft_X7_plug_28, ft_X7_plug_31, ft_X7_plug_33, ft_X7_plug_34, ft_X7_plug_35, ft_X7_plug_38, ft_X7_plug_39, ft_X7_plug_40, ft_X7_plug_43, ft_X7_plug_44, ft_X7_plug_45, ft_X7_plug_48, ft_X7_plug_49, ft_X7_plug_50, ft_X7_plug_51, ft_X7_plug_53, ft_X7_plug_55, ft_X7_plug_56, ft_X7_plug_59, ft_X7_plug_62, ft_X7_plug_63, ft_X7_plug_64, ft_X7_plug_67, ft_X7_plug_68, ft_X7_plug_70, ft_X7_plug_71, ft_X7_plug_72, ft_X7_plug_74, ft_X7_plug_77, ft_X7_plug_78, ft_X7_plug_81, ft_X7_plug_82, ft_X7_plug_83, ft_X7_plug_84, ft_X7_plug_87, ft_X7_plug_90, ft_X7_plug_91, rc_71, s_X7_isPost b.s, s_X7_isCar b.s, okPost_c e3, okCar_c e3, zb_t g1, zb_f g2, ne1_0]
      exact hn fun q => g2 q.1.2
  · rw [pick_f fun q => g1 q.1] at hn
    simp -implicitDefEqProofs only [jr_0, jr_1, jr_2, j_iconst, j_lconst, j_iload0, j_aload0, j_istore0, j_astore0, j_iinc0, j_iload1, j_aload1, j_istore1, j_astore1, j_iinc1, j_iload2, j_aload2, j_istore2, j_astore2, j_iinc2, j_iload3, j_aload3, j_istore3, j_astore3, j_iinc3, j_iload4, j_aload4, j_istore4, j_astore4, j_iinc4, j_iload5, j_aload5, j_istore5, j_astore5, j_iinc5, j_iload6, j_aload6, j_istore6, j_astore6, j_iinc6, j_iload7, j_aload7, j_istore7, j_astore7, j_iinc7, j_iload8, j_aload8, j_istore8, j_astore8, j_iinc8, j_iadd, j_isub, j_imul, j_iand, j_ior, j_ixor, j_ishl, j_ishr, j_iushr, j_idiv, j_irem, j_ineg, j_ladd, j_lmul, j_land, j_lor, j_lcmp, j_lushr, j_lshl, j_i2l, j_l2i, j_dupI, j_dupR, j_popI, j_dup2, j_ifeq, j_iceq, j_ifne, j_icne, j_iflt, j_iclt, j_ifge, j_icge, j_ifgt, j_icgt, j_ifle, j_icle, j_goto, j_tsw, j_sw0, j_sw1, j_ireturn, j_zreturn, j_lreturn, j_return, j_getfield, j_putI, j_putJ, j_putR, j_iaload, j_baload, j_iastore, j_bastore, j_aaload, j_q, j_aastore, j_acopy, j_mmin, j_mmax, j_mabs, j_objinit, j_new, j_newI, j_newQ, j_sld, j_slen, j_callV0, j_callI0, j_callS0, j_callV1, j_callI1, j_callS1, j_callV2, j_callI2, j_callS2, j_callV3, j_callS3, j_callV4, j_callS4, j_callV5, j_callS5, j_pushS, j_pushN, j_sh0, j_sh1, j_sh2, j_sh3, j_sh4, Int32.reduceAdd, Int32.reduceMul, Int32.reduceSub, Int32.reduceLT, Int32.reduceLE, eq_self, i32_10, i32_01, ne_eq, hrow_s, hrow_n, ne10, ne100, ne1000, ne7, ne4, ne14, ne9973, or_true, true_or, or_false, false_or, not_true_eq_false, not_false_eq_true, false_implies, implies_true, and_true, forall_const, true_implies, jargs_n, jargs_r, jargs_i, List.cons_append, List.nil_append, true_and, Nat.reduceEqDiff, reduceIte, ft_X7_plug_0, ft_X7_plug_1, ft_X7_plug_2, ft_X7_plug_5, ft_X7_plug_8, ft_X7_plug_9, ft_X7_plug_10, ft_X7_plug_13, ft_X7_plug_16, ft_X7_plug_17, ft_X7_plug_18, ft_X7_plug_19, ft_X7_plug_20, ft_X7_plug_23, ft_X7_plug_24, ft_X7_plug_25, ft_X7_plug_28, ft_X7_plug_31, ft_X7_plug_33, ft_X7_plug_34, ft_X7_plug_35, ft_X7_plug_38, ft_X7_plug_39, ft_X7_plug_40, ft_X7_plug_43, ft_X7_plug_44, ft_X7_plug_45, ft_X7_plug_48, ft_X7_plug_49, ft_X7_plug_50, ft_X7_plug_51, ft_X7_plug_53, ft_X7_plug_55, ft_X7_plug_56, ft_X7_plug_59, ft_X7_plug_62, ft_X7_plug_63, ft_X7_plug_64, ft_X7_plug_67, ft_X7_plug_68, ft_X7_plug_70, ft_X7_plug_71, ft_X7_plug_72, ft_X7_plug_74, ft_X7_plug_77, ft_X7_plug_78, ft_X7_plug_81, ft_X7_plug_82, ft_X7_plug_83, ft_X7_plug_84, ft_X7_plug_87, ft_X7_plug_90, ft_X7_plug_91, rc_71, s_X7_isPost b.s, okPost_c e3, zb_f g1]
    exact hn fun q => g1 q.1.1
theorem co_plug (p c : Int32) : Co S_X6_plug S_X7_plug [.ref 0, .int p, .int c] [.ref 71, .int p, .int c] := by
  intro n C z h hn
  obtain ⟨P, K, L, nx, ct, sn, h⟩ := h
  have k := h.ak
  have hI : okPlug C (C 9) p c → Inv P K (3960 * n + 3960) (plugR (C 9) p c) := fun g => by
    obtain ⟨⟨g1, g2⟩, g3, g4⟩ := g
    obtain ⟨j, hj, rfl⟩ := okPost_at k.s g1
    obtain ⟨i, hi, rfl⟩ := okCar_at k.s g2
    rw [rgj_2 (by have := k.s.h4; omega)] at g3
    exact (plugR_I k.iv hj k.s.h4 hi k.s.h6 g3 g4).le (by omega)
  refine co_act (cond := okPlug C (C 9) p c) h (fun nb Q q => s_X6_plug k.rc h.hr.1.1 q) (fun g => carsF_nn) hI (fun g nb Q C1 b hq => ?_) (fun g nb Q C1 b hq => ?_)
  · exact ⟨C1, C, z, P, K, nx, ct, 3960 * n, p, c, rfl, rfl, b, k.s, k.iv, fun _ => hq, fun q => absurd g q⟩
  · exact ⟨C1, C, z, P, K, nx, ct, 3960 * n, p, c, rfl, rfl, b, k.s, k.iv, fun q => absurd q g, fun _ => hq⟩
/-! pull -/
theorem Bf.nt {C C1 C2 : Nat → Nat → Int32} {P K nx ct : Nat} (b : Bf C C1 P K nx ct) (nt : Noted C1 C2 nx ct) : SR C2 P K ∧ C2 78 = C 9 ∧ C2 5 = C 5 ∧ C2 71 23 = C 71 23 := by
  obtain ⟨e3, e4, e5⟩ := b.2.2.2.1
  have f : ∀ i, i ≠ 13 → i ≠ 14 → C2 71 i = C1 71 i := nt.1.2
  have r : ∀ a, a ≠ 80 → a ≠ 71 → C2 a = C1 a := nt.1.1
  refine ⟨b.s.eq (r 3 (by decide) (by decide)) (r 4 (by decide) (by decide)) (r 5 (by decide) (by decide)) (f 2 (by decide) (by decide)) (f 4 (by decide) (by decide)) (f 9 (by decide) (by decide)) (r 73 (by decide) (by decide)) (r 74 (by decide) (by decide)) (r 75 (by decide) (by decide)) (r 76 (by decide) (by decide)) (r 77 (by decide) (by decide)), ?_, ?_, ?_⟩
  · rw [r 78 (by decide) (by decide)]; exact b.e
  · rw [r 5 (by decide) (by decide)]; exact e5
  · rw [f 23 (by decide) (by decide), b.2.2.1]
def F_X7_pull_0 : Nat → jT := fun pc => (bif Nat.blt pc 11 then (bif Nat.blt pc 5 then (bif Nat.blt pc 1 then (bif Nat.beq pc 0 then J_aload 0 1 else jbad) else (bif Nat.blt pc 2 then (bif Nat.beq pc 1 then J_iload 1 2 else jbad) else (bif Nat.beq pc 2 then J_callV 7 S_X7_isPost 1 5 else jbad))) else (bif Nat.blt pc 9 then (bif Nat.blt pc 8 then (bif Nat.beq pc 5 then J_ifne 10 8 else jbad) else (bif Nat.beq pc 8 then J_iconst (-1) 9 else jbad)) else (bif Nat.blt pc 10 then (bif Nat.beq pc 9 then J_ireturn 0 0 else jbad) else (bif Nat.beq pc 10 then J_aload 0 11 else jbad)))) else (bif Nat.blt pc 17 then (bif Nat.blt pc 15 then (bif Nat.blt pc 14 then (bif Nat.beq pc 11 then J_getfield 7 10 14 else jbad) else (bif Nat.beq pc 14 then J_iconst 4 15 else jbad)) else (bif Nat.blt pc 16 then (bif Nat.beq pc 15 then J_iload 1 16 else jbad) else (bif Nat.beq pc 16 then J_iadd 17 else jbad))) else (bif Nat.blt pc 21 then (bif Nat.blt pc 18 then (bif Nat.beq pc 17 then J_iaload 18 else jbad) else (bif Nat.beq pc 18 then J_ifne 24 21 else jbad)) else (bif Nat.blt pc 23 then (bif Nat.beq pc 21 then J_iconst (-3) 23 else jbad) else (bif Nat.beq pc 23 then J_ireturn 0 0 else jbad)))))
theorem ftl_X7_pull_0 : F_X7_pull_0 0 = J_aload 0 1 := rfl
theorem ftl_X7_pull_1 : F_X7_pull_0 1 = J_iload 1 2 := rfl
theorem ftl_X7_pull_2 : F_X7_pull_0 2 = J_callV 7 S_X7_isPost 1 5 := rfl
theorem ftl_X7_pull_5 : F_X7_pull_0 5 = J_ifne 10 8 := rfl
theorem ftl_X7_pull_8 : F_X7_pull_0 8 = J_iconst (-1) 9 := rfl
theorem ftl_X7_pull_9 : F_X7_pull_0 9 = J_ireturn 0 0 := rfl
theorem ftl_X7_pull_10 : F_X7_pull_0 10 = J_aload 0 11 := rfl
theorem ftl_X7_pull_11 : F_X7_pull_0 11 = J_getfield 7 10 14 := rfl
theorem ftl_X7_pull_14 : F_X7_pull_0 14 = J_iconst 4 15 := rfl
theorem ftl_X7_pull_15 : F_X7_pull_0 15 = J_iload 1 16 := rfl
theorem ftl_X7_pull_16 : F_X7_pull_0 16 = J_iadd 17 := rfl
theorem ftl_X7_pull_17 : F_X7_pull_0 17 = J_iaload 18 := rfl
theorem ftl_X7_pull_18 : F_X7_pull_0 18 = J_ifne 24 21 := rfl
theorem ftl_X7_pull_21 : F_X7_pull_0 21 = J_iconst (-3) 23 := rfl
theorem ftl_X7_pull_23 : F_X7_pull_0 23 = J_ireturn 0 0 := rfl
theorem F_X7_pull_0_ok : jOK Y_X7_pull none (F_X7_pull_0) := (jOK_node (jOK_node (jOK_node (jOK_leaf (sn_aload_n dX7_pull_0 rfl rfl)) (jOK_node (jOK_leaf (sn_iload_n dX7_pull_1 rfl rfl)) (jOK_leaf (sn_callV (Y' := Y_X7_isPost) ok_X7_isPost dX7_pull_2 rfl rfl rfl tw_788 tw_790 tp_33 tw_8 jc_X7_isPost rfl ⟨by decide, by decide, rfl⟩ ⟨by decide, by decide⟩)))) (jOK_node (jOK_node (jOK_leaf (sn_ifne dX7_pull_5 rfl rfl)) (jOK_leaf (sn_iconst dX7_pull_8 rfl rfl))) (jOK_node (jOK_leaf (sn_ireturn dX7_pull_9 rfl rfl)) (jOK_leaf (sn_aload_n dX7_pull_10 rfl rfl))))) (jOK_node (jOK_node (jOK_node (jOK_leaf (sn_getfield dX7_pull_11 rfl rfl (by decide) tw_624 jin7)) (jOK_leaf (sn_iconst dX7_pull_14 rfl rfl))) (jOK_node (jOK_leaf (sn_iload_n dX7_pull_15 rfl rfl)) (jOK_leaf (sn_iadd dX7_pull_16 rfl)))) (jOK_node (jOK_node (jOK_leaf (sn_iaload dX7_pull_17 rfl)) (jOK_leaf (sn_ifne dX7_pull_18 rfl rfl))) (jOK_node (jOK_leaf (sn_bipush dX7_pull_21 rfl rfl)) (jOK_leaf (sn_ireturn dX7_pull_23 rfl rfl))))))
def F_X7_pull_24 : Nat → jT := fun pc => (bif Nat.blt pc 36 then (bif Nat.blt pc 32 then (bif Nat.blt pc 28 then (bif Nat.blt pc 25 then (bif Nat.beq pc 24 then J_aload 0 25 else jbad) else (bif Nat.beq pc 25 then J_callV 7 S_X7_note 0 28 else jbad)) else (bif Nat.blt pc 29 then (bif Nat.beq pc 28 then J_aload 0 29 else jbad) else (bif Nat.beq pc 29 then J_getfield 7 10 32 else jbad))) else (bif Nat.blt pc 34 then (bif Nat.blt pc 33 then (bif Nat.beq pc 32 then J_iconst 0 33 else jbad) else (bif Nat.beq pc 33 then J_iload 1 34 else jbad)) else (bif Nat.blt pc 35 then (bif Nat.beq pc 34 then J_iadd 35 else jbad) else (bif Nat.beq pc 35 then J_iaload 36 else jbad)))) else (bif Nat.blt pc 42 then (bif Nat.blt pc 38 then (bif Nat.blt pc 37 then (bif Nat.beq pc 36 then J_istore 2 37 else jbad) else (bif Nat.beq pc 37 then J_aload 0 38 else jbad)) else (bif Nat.blt pc 39 then (bif Nat.beq pc 38 then J_aload 0 39 else jbad) else (bif Nat.beq pc 39 then J_getfield 7 10 42 else jbad))) else (bif Nat.blt pc 46 then (bif Nat.blt pc 43 then (bif Nat.beq pc 42 then J_iload 1 43 else jbad) else (bif Nat.beq pc 43 then J_callV 7 S_X7_pullOn 2 46 else jbad)) else (bif Nat.blt pc 47 then (bif Nat.beq pc 46 then J_iload 2 47 else jbad) else (bif Nat.beq pc 47 then J_ireturn 0 0 else jbad)))))
theorem ftl_X7_pull_24 : F_X7_pull_24 24 = J_aload 0 25 := rfl
theorem ftl_X7_pull_25 : F_X7_pull_24 25 = J_callV 7 S_X7_note 0 28 := rfl
theorem ftl_X7_pull_28 : F_X7_pull_24 28 = J_aload 0 29 := rfl
theorem ftl_X7_pull_29 : F_X7_pull_24 29 = J_getfield 7 10 32 := rfl
theorem ftl_X7_pull_32 : F_X7_pull_24 32 = J_iconst 0 33 := rfl
theorem ftl_X7_pull_33 : F_X7_pull_24 33 = J_iload 1 34 := rfl
theorem ftl_X7_pull_34 : F_X7_pull_24 34 = J_iadd 35 := rfl
theorem ftl_X7_pull_35 : F_X7_pull_24 35 = J_iaload 36 := rfl
theorem ftl_X7_pull_36 : F_X7_pull_24 36 = J_istore 2 37 := rfl
theorem ftl_X7_pull_37 : F_X7_pull_24 37 = J_aload 0 38 := rfl
theorem ftl_X7_pull_38 : F_X7_pull_24 38 = J_aload 0 39 := rfl
theorem ftl_X7_pull_39 : F_X7_pull_24 39 = J_getfield 7 10 42 := rfl
theorem ftl_X7_pull_42 : F_X7_pull_24 42 = J_iload 1 43 := rfl
theorem ftl_X7_pull_43 : F_X7_pull_24 43 = J_callV 7 S_X7_pullOn 2 46 := rfl
theorem ftl_X7_pull_46 : F_X7_pull_24 46 = J_iload 2 47 := rfl
theorem ftl_X7_pull_47 : F_X7_pull_24 47 = J_ireturn 0 0 := rfl
theorem F_X7_pull_24_ok : jOK Y_X7_pull none (F_X7_pull_24) := (jOK_node (jOK_node (jOK_node (jOK_node (jOK_leaf (sn_aload_n dX7_pull_24 rfl rfl)) (jOK_leaf (sn_callV (Y' := Y_X7_note) ok_X7_note dX7_pull_25 rfl rfl rfl tw_826 tw_828 tp_39 tw_8 jc_X7_note rfl ⟨by decide, by decide, rfl⟩ ⟨by decide, by decide⟩))) (jOK_node (jOK_leaf (sn_aload_n dX7_pull_28 rfl rfl)) (jOK_leaf (sn_getfield dX7_pull_29 rfl rfl (by decide) tw_624 jin7)))) (jOK_node (jOK_node (jOK_leaf (sn_iconst dX7_pull_32 rfl rfl)) (jOK_leaf (sn_iload_n dX7_pull_33 rfl rfl))) (jOK_node (jOK_leaf (sn_iadd dX7_pull_34 rfl)) (jOK_leaf (sn_iaload dX7_pull_35 rfl))))) (jOK_node (jOK_node (jOK_node (jOK_leaf (sn_istore_n dX7_pull_36 rfl rfl (by decide))) (jOK_leaf (sn_aload_n dX7_pull_37 rfl rfl))) (jOK_node (jOK_leaf (sn_aload_n dX7_pull_38 rfl rfl)) (jOK_leaf (sn_getfield dX7_pull_39 rfl rfl (by decide) tw_624 jin7)))) (jOK_node (jOK_node (jOK_leaf (sn_iload_n dX7_pull_42 rfl rfl)) (jOK_leaf (sn_callV (Y' := Y_X7_pullOn) ok_X7_pullOn dX7_pull_43 rfl rfl rfl tw_888 tw_890 tp_51 tw_8 jc_X7_pullOn rfl ⟨by decide, by decide, rfl⟩ ⟨by decide, by decide⟩))) (jOK_node (jOK_leaf (sn_iload_n dX7_pull_46 rfl rfl)) (jOK_leaf (sn_ireturn dX7_pull_47 rfl rfl))))))
def F_X7_pull_0_47 : Nat → jT := fun pc => bif Nat.blt pc 24 then F_X7_pull_0 pc else F_X7_pull_24 pc
theorem F_X7_pull_0_47_l {pc : Nat} (h : Nat.blt pc 24 = true) : F_X7_pull_0_47 pc = F_X7_pull_0 pc := by unfold F_X7_pull_0_47; rw [h]; rfl
theorem F_X7_pull_0_47_r {pc : Nat} (h : Nat.blt pc 24 = false) : F_X7_pull_0_47 pc = F_X7_pull_24 pc := by unfold F_X7_pull_0_47; rw [h]; rfl
theorem F_X7_pull_0_47_ok : jOK Y_X7_pull none (F_X7_pull_0_47) := jOK_node (F_X7_pull_0_ok) (F_X7_pull_24_ok)
def F_X7_pull : Nat → jT := F_X7_pull_0_47
theorem OK_X7_pull : jOK Y_X7_pull none (F_X7_pull) := F_X7_pull_0_47_ok
theorem ft_X7_pull_0 : F_X7_pull 0 = J_aload 0 1 := (F_X7_pull_0_47_l rfl).trans (ftl_X7_pull_0)
theorem ft_X7_pull_1 : F_X7_pull 1 = J_iload 1 2 := (F_X7_pull_0_47_l rfl).trans (ftl_X7_pull_1)
theorem ft_X7_pull_2 : F_X7_pull 2 = J_callV 7 S_X7_isPost 1 5 := (F_X7_pull_0_47_l rfl).trans (ftl_X7_pull_2)
theorem ft_X7_pull_5 : F_X7_pull 5 = J_ifne 10 8 := (F_X7_pull_0_47_l rfl).trans (ftl_X7_pull_5)
theorem ft_X7_pull_8 : F_X7_pull 8 = J_iconst (-1) 9 := (F_X7_pull_0_47_l rfl).trans (ftl_X7_pull_8)
theorem ft_X7_pull_9 : F_X7_pull 9 = J_ireturn 0 0 := (F_X7_pull_0_47_l rfl).trans (ftl_X7_pull_9)
theorem ft_X7_pull_10 : F_X7_pull 10 = J_aload 0 11 := (F_X7_pull_0_47_l rfl).trans (ftl_X7_pull_10)
theorem ft_X7_pull_11 : F_X7_pull 11 = J_getfield 7 10 14 := (F_X7_pull_0_47_l rfl).trans (ftl_X7_pull_11)
theorem ft_X7_pull_14 : F_X7_pull 14 = J_iconst 4 15 := (F_X7_pull_0_47_l rfl).trans (ftl_X7_pull_14)
theorem ft_X7_pull_15 : F_X7_pull 15 = J_iload 1 16 := (F_X7_pull_0_47_l rfl).trans (ftl_X7_pull_15)
theorem ft_X7_pull_16 : F_X7_pull 16 = J_iadd 17 := (F_X7_pull_0_47_l rfl).trans (ftl_X7_pull_16)
theorem ft_X7_pull_17 : F_X7_pull 17 = J_iaload 18 := (F_X7_pull_0_47_l rfl).trans (ftl_X7_pull_17)
theorem ft_X7_pull_18 : F_X7_pull 18 = J_ifne 24 21 := (F_X7_pull_0_47_l rfl).trans (ftl_X7_pull_18)
theorem ft_X7_pull_21 : F_X7_pull 21 = J_iconst (-3) 23 := (F_X7_pull_0_47_l rfl).trans (ftl_X7_pull_21)
theorem ft_X7_pull_23 : F_X7_pull 23 = J_ireturn 0 0 := (F_X7_pull_0_47_l rfl).trans (ftl_X7_pull_23)
theorem ft_X7_pull_24 : F_X7_pull 24 = J_aload 0 25 := (F_X7_pull_0_47_r rfl).trans (ftl_X7_pull_24)
theorem ft_X7_pull_25 : F_X7_pull 25 = J_callV 7 S_X7_note 0 28 := (F_X7_pull_0_47_r rfl).trans (ftl_X7_pull_25)
theorem ft_X7_pull_28 : F_X7_pull 28 = J_aload 0 29 := (F_X7_pull_0_47_r rfl).trans (ftl_X7_pull_28)
theorem ft_X7_pull_29 : F_X7_pull 29 = J_getfield 7 10 32 := (F_X7_pull_0_47_r rfl).trans (ftl_X7_pull_29)
theorem ft_X7_pull_32 : F_X7_pull 32 = J_iconst 0 33 := (F_X7_pull_0_47_r rfl).trans (ftl_X7_pull_32)
theorem ft_X7_pull_33 : F_X7_pull 33 = J_iload 1 34 := (F_X7_pull_0_47_r rfl).trans (ftl_X7_pull_33)
theorem ft_X7_pull_34 : F_X7_pull 34 = J_iadd 35 := (F_X7_pull_0_47_r rfl).trans (ftl_X7_pull_34)
theorem ft_X7_pull_35 : F_X7_pull 35 = J_iaload 36 := (F_X7_pull_0_47_r rfl).trans (ftl_X7_pull_35)
theorem ft_X7_pull_36 : F_X7_pull 36 = J_istore 2 37 := (F_X7_pull_0_47_r rfl).trans (ftl_X7_pull_36)
theorem ft_X7_pull_37 : F_X7_pull 37 = J_aload 0 38 := (F_X7_pull_0_47_r rfl).trans (ftl_X7_pull_37)
theorem ft_X7_pull_38 : F_X7_pull 38 = J_aload 0 39 := (F_X7_pull_0_47_r rfl).trans (ftl_X7_pull_38)
theorem ft_X7_pull_39 : F_X7_pull 39 = J_getfield 7 10 42 := (F_X7_pull_0_47_r rfl).trans (ftl_X7_pull_39)
theorem ft_X7_pull_42 : F_X7_pull 42 = J_iload 1 43 := (F_X7_pull_0_47_r rfl).trans (ftl_X7_pull_42)
theorem ft_X7_pull_43 : F_X7_pull 43 = J_callV 7 S_X7_pullOn 2 46 := (F_X7_pull_0_47_r rfl).trans (ftl_X7_pull_43)
theorem ft_X7_pull_46 : F_X7_pull 46 = J_iload 2 47 := (F_X7_pull_0_47_r rfl).trans (ftl_X7_pull_46)
theorem ft_X7_pull_47 : F_X7_pull 47 = J_ireturn 0 0 := (F_X7_pull_0_47_r rfl).trans (ftl_X7_pull_47)
def S_X7_pull : jSp := fun nb vs mem Q => jcs vs ≤ 3 ∧ jrun F_X7_pull [] 60 Q (fun _ _ _ _ _ => False) 0 (jargs vs ++ [none]) [] mem (nb, 0, 0)
theorem ok_X7_pull : jMeets Y_X7_pull S_X7_pull := fun _ _ _ _ h => Ok.inl OK_X7_pull 60 [none] pn7 rfl h
theorem co_pull (p : Int32) : Co S_X6_pull S_X7_pull [.ref 0, .int p] [.ref 71, .int p] := by
  intro n C z h hn
  obtain ⟨P, K, L, nx, ct, sn, h⟩ := h
  have k := h.ak
  have h4 := k.s.h4
  have h6 := k.s.h6
  refine co_act (cond := okPost C p ∧ ¬ rget (C 9) p 1 = -9) h (fun nb Q q => s_X6_pull k.rc h.hr.1.1 q) (fun g => ?_) (fun g => ?_) (fun g nb Q C1 b hq => ?_) (fun g nb Q C1 b hq => ?_)
  · obtain ⟨g1, g2⟩ := g
    obtain ⟨j, hj, rfl⟩ := okPost_at k.s g1
    rw [rgj_1 (by omega), Nat.zero_add] at g2 ⊢
    obtain ⟨-, ⟨c, hc, e⟩, -⟩ := k.iv.occ9 (by omega) g2
    rw [e]
    exact nn_nI (by omega)
  · obtain ⟨g1, g2⟩ := g
    obtain ⟨j, hj, rfl⟩ := okPost_at k.s g1
    exact (pullR_I k.iv (by omega)).le (by omega)
  · obtain ⟨e3, e4, e5⟩ := b.2.2.2.1
    obtain ⟨g1, g2⟩ := g
    obtain ⟨j, hj, rfl⟩ := okPost_at k.s g1
    have hj4 : j < 4 := by omega
    rw [rgj_1 hj4, Nat.zero_add] at g2 hq
    have g3 := g2
    rw [k.iv.free h6 hj4] at g3
    refine ⟨Nat.le_of_ble_eq_true rfl, ?_⟩
    simp -implicitDefEqProofs only [jr_0, jr_1, jr_2, j_iconst, j_lconst, j_iload0, j_aload0, j_istore0, j_astore0, j_iinc0, j_iload1, j_aload1, j_istore1, j_astore1, j_iinc1, j_iload2, j_aload2, j_istore2, j_astore2, j_iinc2, j_iload3, j_aload3, j_istore3, j_astore3, j_iinc3, j_iload4, j_aload4, j_istore4, j_astore4, j_iinc4, j_iload5, j_aload5, j_istore5, j_astore5, j_iinc5, j_iload6, j_aload6, j_istore6, j_astore6, j_iinc6, j_iload7, j_aload7, j_istore7, j_astore7, j_iinc7, j_iload8, j_aload8, j_istore8, j_astore8, j_iinc8, j_iadd, j_isub, j_imul, j_iand, j_ior, j_ixor, j_ishl, j_ishr, j_iushr, j_idiv, j_irem, j_ineg, j_ladd, j_lmul, j_land, j_lor, j_lcmp, j_lushr, j_lshl, j_i2l, j_l2i, j_dupI, j_dupR, j_popI, j_dup2, j_ifeq, j_iceq, j_ifne, j_icne, j_iflt, j_iclt, j_ifge, j_icge, j_ifgt, j_icgt, j_ifle, j_icle, j_goto, j_tsw, j_sw0, j_sw1, j_ireturn, j_zreturn, j_lreturn, j_return, j_getfield, j_putI, j_putJ, j_putR, j_iaload, j_baload, j_iastore, j_bastore, j_aaload, j_q, j_aastore, j_acopy, j_mmin, j_mmax, j_mabs, j_objinit, j_new, j_newI, j_newQ, j_sld, j_slen, j_callV0, j_callI0, j_callS0, j_callV1, j_callI1, j_callS1, j_callV2, j_callI2, j_callS2, j_callV3, j_callS3, j_callV4, j_callS4, j_callV5, j_callS5, j_pushS, j_pushN, j_sh0, j_sh1, j_sh2, j_sh3, j_sh4, Int32.reduceAdd, Int32.reduceMul, Int32.reduceSub, Int32.reduceLT, Int32.reduceLE, eq_self, i32_10, i32_01, ne_eq, hrow_s, hrow_n, ne10, ne100, ne1000, ne7, ne4, ne14, ne9973, or_true, true_or, or_false, false_or, not_true_eq_false, not_false_eq_true, false_implies, implies_true, and_true, forall_const, true_implies, jargs_n, jargs_r, jargs_i, List.cons_append, List.nil_append, true_and, Nat.reduceEqDiff, reduceIte, ft_X7_pull_0, ft_X7_pull_1, ft_X7_pull_2, ft_X7_pull_5, ft_X7_pull_8, ft_X7_pull_9, ft_X7_pull_10, ft_X7_pull_11, ft_X7_pull_14, ft_X7_pull_15, ft_X7_pull_16, ft_X7_pull_17, ft_X7_pull_18, ft_X7_pull_21, ft_X7_pull_23, ft_X7_pull_24, ft_X7_pull_25, ft_X7_pull_28, ft_X7_pull_29, ft_X7_pull_32, ft_X7_pull_33, ft_X7_pull_34, ft_X7_pull_35, ft_X7_pull_36, ft_X7_pull_37, ft_X7_pull_38, ft_X7_pull_39, ft_X7_pull_42, ft_X7_pull_43, ft_X7_pull_46, ft_X7_pull_47, rc_71, fl_71_10, s_X7_isPost b.s, okPost_c e3, zb_t g1, ne1_0, ar_4 jmr78 hj4, b.e, g3]
    refine s_X7_note b.2.2.2.2.1.1 b.2.2.2.2.1.2 b.2.2.2.2.2.1 b.2.2.2.2.2.2 fun C2 nt => ?_
    obtain ⟨s2, e78, -, -⟩ := b.nt nt
    simp -implicitDefEqProofs only [jr_0, jr_1, jr_2, j_iconst, j_lconst, j_iload0, j_aload0, j_istore0, j_astore0, j_iinc0, j_iload1, j_aload1, j_istore1, j_astore1, j_iinc1, j_iload2, j_aload2, j_istore2, j_astore2, j_iinc2, j_iload3, j_aload3, j_istore3, j_astore3, j_iinc3, j_iload4, j_aload4, j_istore4, j_astore4, j_iinc4, j_iload5, j_aload5, j_istore5, j_astore5, j_iinc5, j_iload6, j_aload6, j_istore6, j_astore6, j_iinc6, j_iload7, j_aload7, j_istore7, j_astore7, j_iinc7, j_iload8, j_aload8, j_istore8, j_astore8, j_iinc8, j_iadd, j_isub, j_imul, j_iand, j_ior, j_ixor, j_ishl, j_ishr, j_iushr, j_idiv, j_irem, j_ineg, j_ladd, j_lmul, j_land, j_lor, j_lcmp, j_lushr, j_lshl, j_i2l, j_l2i, j_dupI, j_dupR, j_popI, j_dup2, j_ifeq, j_iceq, j_ifne, j_icne, j_iflt, j_iclt, j_ifge, j_icge, j_ifgt, j_icgt, j_ifle, j_icle, j_goto, j_tsw, j_sw0, j_sw1, j_ireturn, j_zreturn, j_lreturn, j_return, j_getfield, j_putI, j_putJ, j_putR, j_iaload, j_baload, j_iastore, j_bastore, j_aaload, j_q, j_aastore, j_acopy, j_mmin, j_mmax, j_mabs, j_objinit, j_new, j_newI, j_newQ, j_sld, j_slen, j_callV0, j_callI0, j_callS0, j_callV1, j_callI1, j_callS1, j_callV2, j_callI2, j_callS2, j_callV3, j_callS3, j_callV4, j_callS4, j_callV5, j_callS5, j_pushS, j_pushN, j_sh0, j_sh1, j_sh2, j_sh3, j_sh4, Int32.reduceAdd, Int32.reduceMul, Int32.reduceSub, Int32.reduceLT, Int32.reduceLE, eq_self, i32_10, i32_01, ne_eq, hrow_s, hrow_n, ne10, ne100, ne1000, ne7, ne4, ne14, ne9973, or_true, true_or, or_false, false_or, not_true_eq_false, not_false_eq_true, false_implies, implies_true, and_true, forall_const, true_implies, jargs_n, jargs_r, jargs_i, List.cons_append, List.nil_append, true_and, Nat.reduceEqDiff, reduceIte, ft_X7_pull_0, ft_X7_pull_1, ft_X7_pull_2, ft_X7_pull_5, ft_X7_pull_8, ft_X7_pull_9, ft_X7_pull_10, ft_X7_pull_11, ft_X7_pull_14, ft_X7_pull_15, ft_X7_pull_16, ft_X7_pull_17, ft_X7_pull_18, ft_X7_pull_21, ft_X7_pull_23, ft_X7_pull_24, ft_X7_pull_25, ft_X7_pull_28, ft_X7_pull_29, ft_X7_pull_32, ft_X7_pull_33, ft_X7_pull_34, ft_X7_pull_35, ft_X7_pull_36, ft_X7_pull_37, ft_X7_pull_38, ft_X7_pull_39, ft_X7_pull_42, ft_X7_pull_43, ft_X7_pull_46, ft_X7_pull_47, rc_71, fl_71_10, ar_0 jmr78 hj4, e78, s_X7_pullOn jmr78 hj4]
    exact hq C2 _ nt (Mo.rf.hr (Or.inl rfl)) hrow_s
  · obtain ⟨e3, e4, e5⟩ := b.2.2.2.1
    refine ⟨Nat.le_of_ble_eq_true rfl, ?_⟩
    by_cases g1 : okPost C p
    · rw [pick_t g1] at hq
      obtain ⟨j, hj, rfl⟩ := okPost_at k.s g1
      have hj4 : j < 4 := by omega
      have g2 : C 9 (4 + j) = 0 := by
        rw [← k.iv.free h6 hj4]
        have : ¬ ¬ rget (C 9) (nI j) 1 = -9 := fun q => g ⟨g1, q⟩
        rw [rgj_1 hj4, Nat.zero_add] at this
        exact Classical.not_not.mp this
      simp -implicitDefEqProofs only [jr_0, jr_1, jr_2, j_iconst, j_lconst, j_iload0, j_aload0, j_istore0, j_astore0, j_iinc0, j_iload1, j_aload1, j_istore1, j_astore1, j_iinc1, j_iload2, j_aload2, j_istore2, j_astore2, j_iinc2, j_iload3, j_aload3, j_istore3, j_astore3, j_iinc3, j_iload4, j_aload4, j_istore4, j_astore4, j_iinc4, j_iload5, j_aload5, j_istore5, j_astore5, j_iinc5, j_iload6, j_aload6, j_istore6, j_astore6, j_iinc6, j_iload7, j_aload7, j_istore7, j_astore7, j_iinc7, j_iload8, j_aload8, j_istore8, j_astore8, j_iinc8, j_iadd, j_isub, j_imul, j_iand, j_ior, j_ixor, j_ishl, j_ishr, j_iushr, j_idiv, j_irem, j_ineg, j_ladd, j_lmul, j_land, j_lor, j_lcmp, j_lushr, j_lshl, j_i2l, j_l2i, j_dupI, j_dupR, j_popI, j_dup2, j_ifeq, j_iceq, j_ifne, j_icne, j_iflt, j_iclt, j_ifge, j_icge, j_ifgt, j_icgt, j_ifle, j_icle, j_goto, j_tsw, j_sw0, j_sw1, j_ireturn, j_zreturn, j_lreturn, j_return, j_getfield, j_putI, j_putJ, j_putR, j_iaload, j_baload, j_iastore, j_bastore, j_aaload, j_q, j_aastore, j_acopy, j_mmin, j_mmax, j_mabs, j_objinit, j_new, j_newI, j_newQ, j_sld, j_slen, j_callV0, j_callI0, j_callS0, j_callV1, j_callI1, j_callS1, j_callV2, j_callI2, j_callS2, j_callV3, j_callS3, j_callV4, j_callS4, j_callV5, j_callS5, j_pushS, j_pushN, j_sh0, j_sh1, j_sh2, j_sh3, j_sh4, Int32.reduceAdd, Int32.reduceMul, Int32.reduceSub, Int32.reduceLT, Int32.reduceLE, eq_self, i32_10, i32_01, ne_eq, hrow_s, hrow_n, ne10, ne100, ne1000, ne7, ne4, ne14, ne9973, or_true, true_or, or_false, false_or, not_true_eq_false, not_false_eq_true, false_implies, implies_true, and_true, forall_const, true_implies, jargs_n, jargs_r, jargs_i, List.cons_append, List.nil_append, true_and, Nat.reduceEqDiff, reduceIte, ft_X7_pull_0, ft_X7_pull_1, ft_X7_pull_2, ft_X7_pull_5, ft_X7_pull_8, ft_X7_pull_9, ft_X7_pull_10, ft_X7_pull_11, ft_X7_pull_14, ft_X7_pull_15, ft_X7_pull_16, ft_X7_pull_17, ft_X7_pull_18, ft_X7_pull_21, ft_X7_pull_23, ft_X7_pull_24, ft_X7_pull_25, ft_X7_pull_28, ft_X7_pull_29, ft_X7_pull_32, ft_X7_pull_33, ft_X7_pull_34, ft_X7_pull_35, ft_X7_pull_36, ft_X7_pull_37, ft_X7_pull_38, ft_X7_pull_39, ft_X7_pull_42, ft_X7_pull_43, ft_X7_pull_46, ft_X7_pull_47, rc_71, fl_71_10, s_X7_isPost b.s, okPost_c e3, zb_t g1, ne1_0, ar_4 jmr78 hj4, b.e, g2]
      exact hq
    · rw [pick_f g1] at hq
      simp -implicitDefEqProofs only [jr_0, jr_1, jr_2, j_iconst, j_lconst, j_iload0, j_aload0, j_istore0, j_astore0, j_iinc0, j_iload1, j_aload1, j_istore1, j_astore1, j_iinc1, j_iload2, j_aload2, j_istore2, j_astore2, j_iinc2, j_iload3, j_aload3, j_istore3, j_astore3, j_iinc3, j_iload4, j_aload4, j_istore4, j_astore4, j_iinc4, j_iload5, j_aload5, j_istore5, j_astore5, j_iinc5, j_iload6, j_aload6, j_istore6, j_astore6, j_iinc6, j_iload7, j_aload7, j_istore7, j_astore7, j_iinc7, j_iload8, j_aload8, j_istore8, j_astore8, j_iinc8, j_iadd, j_isub, j_imul, j_iand, j_ior, j_ixor, j_ishl, j_ishr, j_iushr, j_idiv, j_irem, j_ineg, j_ladd, j_lmul, j_land, j_lor, j_lcmp, j_lushr, j_lshl, j_i2l, j_l2i, j_dupI, j_dupR, j_popI, j_dup2, j_ifeq, j_iceq, j_ifne, j_icne, j_iflt, j_iclt, j_ifge, j_icge, j_ifgt, j_icgt, j_ifle, j_icle, j_goto, j_tsw, j_sw0, j_sw1, j_ireturn, j_zreturn, j_lreturn, j_return, j_getfield, j_putI, j_putJ, j_putR, j_iaload, j_baload, j_iastore, j_bastore, j_aaload, j_q, j_aastore, j_acopy, j_mmin, j_mmax, j_mabs, j_objinit, j_new, j_newI, j_newQ, j_sld, j_slen, j_callV0, j_callI0, j_callS0, j_callV1, j_callI1, j_callS1, j_callV2, j_callI2, j_callS2, j_callV3, j_callS3, j_callV4, j_callS4, j_callV5, j_callS5, j_pushS, j_pushN, j_sh0, j_sh1, j_sh2, j_sh3, j_sh4, Int32.reduceAdd, Int32.reduceMul, Int32.reduceSub, Int32.reduceLT, Int32.reduceLE, eq_self, i32_10, i32_01, ne_eq, hrow_s, hrow_n, ne10, ne100, ne1000, ne7, ne4, ne14, ne9973, or_true, true_or, or_false, false_or, not_true_eq_false, not_false_eq_true, false_implies, implies_true, and_true, forall_const, true_implies, jargs_n, jargs_r, jargs_i, List.cons_append, List.nil_append, true_and, Nat.reduceEqDiff, reduceIte, ft_X7_pull_0, ft_X7_pull_1, ft_X7_pull_2, ft_X7_pull_5, ft_X7_pull_8, ft_X7_pull_9, ft_X7_pull_10, ft_X7_pull_11, ft_X7_pull_14, ft_X7_pull_15, ft_X7_pull_16, ft_X7_pull_17, ft_X7_pull_18, ft_X7_pull_21, ft_X7_pull_23, ft_X7_pull_24, ft_X7_pull_25, ft_X7_pull_28, ft_X7_pull_29, ft_X7_pull_32, ft_X7_pull_33, ft_X7_pull_34, ft_X7_pull_35, ft_X7_pull_36, ft_X7_pull_37, ft_X7_pull_38, ft_X7_pull_39, ft_X7_pull_42, ft_X7_pull_43, ft_X7_pull_46, ft_X7_pull_47, rc_71, s_X7_isPost b.s, okPost_c e3, zb_f g1]
      exact hq
/-! say -/
def F_X7_say_0 : Nat → jT := fun pc => (bif Nat.blt pc 8 then (bif Nat.blt pc 2 then (bif Nat.blt pc 1 then (bif Nat.beq pc 0 then J_aload 0 1 else jbad) else (bif Nat.beq pc 1 then J_iload 1 2 else jbad)) else (bif Nat.blt pc 5 then (bif Nat.beq pc 2 then J_callV 7 S_X7_isPost 1 5 else jbad) else (bif Nat.beq pc 5 then J_ifne 10 8 else jbad))) else (bif Nat.blt pc 10 then (bif Nat.blt pc 9 then (bif Nat.beq pc 8 then J_iconst (-1) 9 else jbad) else (bif Nat.beq pc 9 then J_ireturn 0 0 else jbad)) else (bif Nat.blt pc 11 then (bif Nat.beq pc 10 then J_iload 2 11 else jbad) else (bif Nat.blt pc 12 then (bif Nat.beq pc 11 then J_iconst 0 12 else jbad) else (bif Nat.beq pc 12 then J_iconst 5 13 else jbad)))))
theorem ftl_X7_say_0 : F_X7_say_0 0 = J_aload 0 1 := rfl
theorem ftl_X7_say_1 : F_X7_say_0 1 = J_iload 1 2 := rfl
theorem ftl_X7_say_2 : F_X7_say_0 2 = J_callV 7 S_X7_isPost 1 5 := rfl
theorem ftl_X7_say_5 : F_X7_say_0 5 = J_ifne 10 8 := rfl
theorem ftl_X7_say_8 : F_X7_say_0 8 = J_iconst (-1) 9 := rfl
theorem ftl_X7_say_9 : F_X7_say_0 9 = J_ireturn 0 0 := rfl
theorem ftl_X7_say_10 : F_X7_say_0 10 = J_iload 2 11 := rfl
theorem ftl_X7_say_11 : F_X7_say_0 11 = J_iconst 0 12 := rfl
theorem ftl_X7_say_12 : F_X7_say_0 12 = J_iconst 5 13 := rfl
theorem F_X7_say_0_ok : jOK Y_X7_say none (F_X7_say_0) := (jOK_node (jOK_node (jOK_node (jOK_leaf (sn_aload_n dX7_say_0 rfl rfl)) (jOK_leaf (sn_iload_n dX7_say_1 rfl rfl))) (jOK_node (jOK_leaf (sn_callV (Y' := Y_X7_isPost) ok_X7_isPost dX7_say_2 rfl rfl rfl tw_788 tw_790 tp_33 tw_8 jc_X7_isPost rfl ⟨by decide, by decide, rfl⟩ ⟨by decide, by decide⟩)) (jOK_leaf (sn_ifne dX7_say_5 rfl rfl)))) (jOK_node (jOK_node (jOK_leaf (sn_iconst dX7_say_8 rfl rfl)) (jOK_leaf (sn_ireturn dX7_say_9 rfl rfl))) (jOK_node (jOK_leaf (sn_iload_n dX7_say_10 rfl rfl)) (jOK_node (jOK_leaf (sn_iconst dX7_say_11 rfl rfl)) (jOK_leaf (sn_iconst dX7_say_12 rfl rfl))))))
def F_X7_say_13 : Nat → jT := fun pc => (bif Nat.blt pc 22 then (bif Nat.blt pc 19 then (bif Nat.blt pc 16 then (bif Nat.beq pc 13 then J_callS S_X7_in 3 16 else jbad) else (bif Nat.beq pc 16 then J_ifne 22 19 else jbad)) else (bif Nat.blt pc 21 then (bif Nat.beq pc 19 then J_iconst (-2) 21 else jbad) else (bif Nat.beq pc 21 then J_ireturn 0 0 else jbad))) else (bif Nat.blt pc 24 then (bif Nat.blt pc 23 then (bif Nat.beq pc 22 then J_aload 0 23 else jbad) else (bif Nat.beq pc 23 then J_aload 0 24 else jbad)) else (bif Nat.blt pc 27 then (bif Nat.beq pc 24 then J_getfield 7 10 27 else jbad) else (bif Nat.blt pc 28 then (bif Nat.beq pc 27 then J_iload 1 28 else jbad) else (bif Nat.beq pc 28 then J_callV 7 S_X7_maySay 2 31 else jbad)))))
theorem ftl_X7_say_13 : F_X7_say_13 13 = J_callS S_X7_in 3 16 := rfl
theorem ftl_X7_say_16 : F_X7_say_13 16 = J_ifne 22 19 := rfl
theorem ftl_X7_say_19 : F_X7_say_13 19 = J_iconst (-2) 21 := rfl
theorem ftl_X7_say_21 : F_X7_say_13 21 = J_ireturn 0 0 := rfl
theorem ftl_X7_say_22 : F_X7_say_13 22 = J_aload 0 23 := rfl
theorem ftl_X7_say_23 : F_X7_say_13 23 = J_aload 0 24 := rfl
theorem ftl_X7_say_24 : F_X7_say_13 24 = J_getfield 7 10 27 := rfl
theorem ftl_X7_say_27 : F_X7_say_13 27 = J_iload 1 28 := rfl
theorem ftl_X7_say_28 : F_X7_say_13 28 = J_callV 7 S_X7_maySay 2 31 := rfl
theorem F_X7_say_13_ok : jOK Y_X7_say none (F_X7_say_13) := (jOK_node (jOK_node (jOK_node (jOK_leaf (sn_callS (Y' := Y_X7_in) ok_X7_in dX7_say_13 rfl rfl tw_737 tw_738 tw_8 jc_X7_in ⟨by decide, by decide, rfl⟩ ⟨by decide, by decide⟩)) (jOK_leaf (sn_ifne dX7_say_16 rfl rfl))) (jOK_node (jOK_leaf (sn_bipush dX7_say_19 rfl rfl)) (jOK_leaf (sn_ireturn dX7_say_21 rfl rfl)))) (jOK_node (jOK_node (jOK_leaf (sn_aload_n dX7_say_22 rfl rfl)) (jOK_leaf (sn_aload_n dX7_say_23 rfl rfl))) (jOK_node (jOK_leaf (sn_getfield dX7_say_24 rfl rfl (by decide) tw_624 jin7)) (jOK_node (jOK_leaf (sn_iload_n dX7_say_27 rfl rfl)) (jOK_leaf (sn_callV (Y' := Y_X7_maySay) ok_X7_maySay dX7_say_28 rfl rfl rfl tw_896 tw_898 tp_52 tw_8 jc_X7_maySay rfl ⟨by decide, by decide, rfl⟩ ⟨by decide, by decide⟩))))))
def F_X7_say_0_28 : Nat → jT := fun pc => bif Nat.blt pc 13 then F_X7_say_0 pc else F_X7_say_13 pc
theorem F_X7_say_0_28_l {pc : Nat} (h : Nat.blt pc 13 = true) : F_X7_say_0_28 pc = F_X7_say_0 pc := by unfold F_X7_say_0_28; rw [h]; rfl
theorem F_X7_say_0_28_r {pc : Nat} (h : Nat.blt pc 13 = false) : F_X7_say_0_28 pc = F_X7_say_13 pc := by unfold F_X7_say_0_28; rw [h]; rfl
theorem F_X7_say_0_28_ok : jOK Y_X7_say none (F_X7_say_0_28) := jOK_node (F_X7_say_0_ok) (F_X7_say_13_ok)
def F_X7_say_31 : Nat → jT := fun pc => (bif Nat.blt pc 38 then (bif Nat.blt pc 36 then (bif Nat.blt pc 34 then (bif Nat.beq pc 31 then J_ifne 37 34 else jbad) else (bif Nat.beq pc 34 then J_iconst (-3) 36 else jbad)) else (bif Nat.blt pc 37 then (bif Nat.beq pc 36 then J_ireturn 0 0 else jbad) else (bif Nat.beq pc 37 then J_aload 0 38 else jbad))) else (bif Nat.blt pc 42 then (bif Nat.blt pc 41 then (bif Nat.beq pc 38 then J_callV 7 S_X7_note 0 41 else jbad) else (bif Nat.beq pc 41 then J_aload 0 42 else jbad)) else (bif Nat.blt pc 43 then (bif Nat.beq pc 42 then J_aload 0 43 else jbad) else (bif Nat.blt pc 46 then (bif Nat.beq pc 43 then J_getfield 7 10 46 else jbad) else (bif Nat.beq pc 46 then J_iload 1 47 else jbad)))))
theorem ftl_X7_say_31 : F_X7_say_31 31 = J_ifne 37 34 := rfl
theorem ftl_X7_say_34 : F_X7_say_31 34 = J_iconst (-3) 36 := rfl
theorem ftl_X7_say_36 : F_X7_say_31 36 = J_ireturn 0 0 := rfl
theorem ftl_X7_say_37 : F_X7_say_31 37 = J_aload 0 38 := rfl
theorem ftl_X7_say_38 : F_X7_say_31 38 = J_callV 7 S_X7_note 0 41 := rfl
theorem ftl_X7_say_41 : F_X7_say_31 41 = J_aload 0 42 := rfl
theorem ftl_X7_say_42 : F_X7_say_31 42 = J_aload 0 43 := rfl
theorem ftl_X7_say_43 : F_X7_say_31 43 = J_getfield 7 10 46 := rfl
theorem ftl_X7_say_46 : F_X7_say_31 46 = J_iload 1 47 := rfl
theorem F_X7_say_31_ok : jOK Y_X7_say none (F_X7_say_31) := (jOK_node (jOK_node (jOK_node (jOK_leaf (sn_ifne dX7_say_31 rfl rfl)) (jOK_leaf (sn_bipush dX7_say_34 rfl rfl))) (jOK_node (jOK_leaf (sn_ireturn dX7_say_36 rfl rfl)) (jOK_leaf (sn_aload_n dX7_say_37 rfl rfl)))) (jOK_node (jOK_node (jOK_leaf (sn_callV (Y' := Y_X7_note) ok_X7_note dX7_say_38 rfl rfl rfl tw_826 tw_828 tp_39 tw_8 jc_X7_note rfl ⟨by decide, by decide, rfl⟩ ⟨by decide, by decide⟩)) (jOK_leaf (sn_aload_n dX7_say_41 rfl rfl))) (jOK_node (jOK_leaf (sn_aload_n dX7_say_42 rfl rfl)) (jOK_node (jOK_leaf (sn_getfield dX7_say_43 rfl rfl (by decide) tw_624 jin7)) (jOK_leaf (sn_iload_n dX7_say_46 rfl rfl))))))
def F_X7_say_47 : Nat → jT := fun pc => (bif Nat.blt pc 55 then (bif Nat.blt pc 51 then (bif Nat.blt pc 48 then (bif Nat.beq pc 47 then J_iload 2 48 else jbad) else (bif Nat.beq pc 48 then J_callV 7 S_X7_sayOn 3 51 else jbad)) else (bif Nat.blt pc 52 then (bif Nat.beq pc 51 then J_aload 0 52 else jbad) else (bif Nat.beq pc 52 then J_getfield 7 10 55 else jbad))) else (bif Nat.blt pc 57 then (bif Nat.blt pc 56 then (bif Nat.beq pc 55 then J_iconst 4 56 else jbad) else (bif Nat.beq pc 56 then J_iload 1 57 else jbad)) else (bif Nat.blt pc 58 then (bif Nat.beq pc 57 then J_iadd 58 else jbad) else (bif Nat.blt pc 59 then (bif Nat.beq pc 58 then J_iaload 59 else jbad) else (bif Nat.beq pc 59 then J_ireturn 0 0 else jbad)))))
theorem ftl_X7_say_47 : F_X7_say_47 47 = J_iload 2 48 := rfl
theorem ftl_X7_say_48 : F_X7_say_47 48 = J_callV 7 S_X7_sayOn 3 51 := rfl
theorem ftl_X7_say_51 : F_X7_say_47 51 = J_aload 0 52 := rfl
theorem ftl_X7_say_52 : F_X7_say_47 52 = J_getfield 7 10 55 := rfl
theorem ftl_X7_say_55 : F_X7_say_47 55 = J_iconst 4 56 := rfl
theorem ftl_X7_say_56 : F_X7_say_47 56 = J_iload 1 57 := rfl
theorem ftl_X7_say_57 : F_X7_say_47 57 = J_iadd 58 := rfl
theorem ftl_X7_say_58 : F_X7_say_47 58 = J_iaload 59 := rfl
theorem ftl_X7_say_59 : F_X7_say_47 59 = J_ireturn 0 0 := rfl
theorem F_X7_say_47_ok : jOK Y_X7_say none (F_X7_say_47) := (jOK_node (jOK_node (jOK_node (jOK_leaf (sn_iload_n dX7_say_47 rfl rfl)) (jOK_leaf (sn_callV (Y' := Y_X7_sayOn) ok_X7_sayOn dX7_say_48 rfl rfl rfl tw_900 tw_902 tp_53 tw_8 jc_X7_sayOn rfl ⟨by decide, by decide, rfl⟩ ⟨by decide, by decide⟩))) (jOK_node (jOK_leaf (sn_aload_n dX7_say_51 rfl rfl)) (jOK_leaf (sn_getfield dX7_say_52 rfl rfl (by decide) tw_624 jin7)))) (jOK_node (jOK_node (jOK_leaf (sn_iconst dX7_say_55 rfl rfl)) (jOK_leaf (sn_iload_n dX7_say_56 rfl rfl))) (jOK_node (jOK_leaf (sn_iadd dX7_say_57 rfl)) (jOK_node (jOK_leaf (sn_iaload dX7_say_58 rfl)) (jOK_leaf (sn_ireturn dX7_say_59 rfl rfl))))))
def F_X7_say_31_59 : Nat → jT := fun pc => bif Nat.blt pc 47 then F_X7_say_31 pc else F_X7_say_47 pc
theorem F_X7_say_31_59_l {pc : Nat} (h : Nat.blt pc 47 = true) : F_X7_say_31_59 pc = F_X7_say_31 pc := by unfold F_X7_say_31_59; rw [h]; rfl
theorem F_X7_say_31_59_r {pc : Nat} (h : Nat.blt pc 47 = false) : F_X7_say_31_59 pc = F_X7_say_47 pc := by unfold F_X7_say_31_59; rw [h]; rfl
theorem F_X7_say_31_59_ok : jOK Y_X7_say none (F_X7_say_31_59) := jOK_node (F_X7_say_31_ok) (F_X7_say_47_ok)
def F_X7_say_0_59 : Nat → jT := fun pc => bif Nat.blt pc 31 then F_X7_say_0_28 pc else F_X7_say_31_59 pc
theorem F_X7_say_0_59_l {pc : Nat} (h : Nat.blt pc 31 = true) : F_X7_say_0_59 pc = F_X7_say_0_28 pc := by unfold F_X7_say_0_59; rw [h]; rfl
theorem F_X7_say_0_59_r {pc : Nat} (h : Nat.blt pc 31 = false) : F_X7_say_0_59 pc = F_X7_say_31_59 pc := by unfold F_X7_say_0_59; rw [h]; rfl
theorem F_X7_say_0_59_ok : jOK Y_X7_say none (F_X7_say_0_59) := jOK_node (F_X7_say_0_28_ok) (F_X7_say_31_59_ok)
def F_X7_say : Nat → jT := F_X7_say_0_59
theorem OK_X7_say : jOK Y_X7_say none (F_X7_say) := F_X7_say_0_59_ok
theorem ft_X7_say_0 : F_X7_say 0 = J_aload 0 1 := (F_X7_say_0_59_l rfl).trans ((F_X7_say_0_28_l rfl).trans (ftl_X7_say_0))
theorem ft_X7_say_1 : F_X7_say 1 = J_iload 1 2 := (F_X7_say_0_59_l rfl).trans ((F_X7_say_0_28_l rfl).trans (ftl_X7_say_1))
theorem ft_X7_say_2 : F_X7_say 2 = J_callV 7 S_X7_isPost 1 5 := (F_X7_say_0_59_l rfl).trans ((F_X7_say_0_28_l rfl).trans (ftl_X7_say_2))
theorem ft_X7_say_5 : F_X7_say 5 = J_ifne 10 8 := (F_X7_say_0_59_l rfl).trans ((F_X7_say_0_28_l rfl).trans (ftl_X7_say_5))
theorem ft_X7_say_8 : F_X7_say 8 = J_iconst (-1) 9 := (F_X7_say_0_59_l rfl).trans ((F_X7_say_0_28_l rfl).trans (ftl_X7_say_8))
theorem ft_X7_say_9 : F_X7_say 9 = J_ireturn 0 0 := (F_X7_say_0_59_l rfl).trans ((F_X7_say_0_28_l rfl).trans (ftl_X7_say_9))
theorem ft_X7_say_10 : F_X7_say 10 = J_iload 2 11 := (F_X7_say_0_59_l rfl).trans ((F_X7_say_0_28_l rfl).trans (ftl_X7_say_10))
theorem ft_X7_say_11 : F_X7_say 11 = J_iconst 0 12 := (F_X7_say_0_59_l rfl).trans ((F_X7_say_0_28_l rfl).trans (ftl_X7_say_11))
theorem ft_X7_say_12 : F_X7_say 12 = J_iconst 5 13 := (F_X7_say_0_59_l rfl).trans ((F_X7_say_0_28_l rfl).trans (ftl_X7_say_12))
theorem ft_X7_say_13 : F_X7_say 13 = J_callS S_X7_in 3 16 := (F_X7_say_0_59_l rfl).trans ((F_X7_say_0_28_r rfl).trans (ftl_X7_say_13))
theorem ft_X7_say_16 : F_X7_say 16 = J_ifne 22 19 := (F_X7_say_0_59_l rfl).trans ((F_X7_say_0_28_r rfl).trans (ftl_X7_say_16))
theorem ft_X7_say_19 : F_X7_say 19 = J_iconst (-2) 21 := (F_X7_say_0_59_l rfl).trans ((F_X7_say_0_28_r rfl).trans (ftl_X7_say_19))
theorem ft_X7_say_21 : F_X7_say 21 = J_ireturn 0 0 := (F_X7_say_0_59_l rfl).trans ((F_X7_say_0_28_r rfl).trans (ftl_X7_say_21))
theorem ft_X7_say_22 : F_X7_say 22 = J_aload 0 23 := (F_X7_say_0_59_l rfl).trans ((F_X7_say_0_28_r rfl).trans (ftl_X7_say_22))
theorem ft_X7_say_23 : F_X7_say 23 = J_aload 0 24 := (F_X7_say_0_59_l rfl).trans ((F_X7_say_0_28_r rfl).trans (ftl_X7_say_23))
theorem ft_X7_say_24 : F_X7_say 24 = J_getfield 7 10 27 := (F_X7_say_0_59_l rfl).trans ((F_X7_say_0_28_r rfl).trans (ftl_X7_say_24))
theorem ft_X7_say_27 : F_X7_say 27 = J_iload 1 28 := (F_X7_say_0_59_l rfl).trans ((F_X7_say_0_28_r rfl).trans (ftl_X7_say_27))
theorem ft_X7_say_28 : F_X7_say 28 = J_callV 7 S_X7_maySay 2 31 := (F_X7_say_0_59_l rfl).trans ((F_X7_say_0_28_r rfl).trans (ftl_X7_say_28))
theorem ft_X7_say_31 : F_X7_say 31 = J_ifne 37 34 := (F_X7_say_0_59_r rfl).trans ((F_X7_say_31_59_l rfl).trans (ftl_X7_say_31))
theorem ft_X7_say_34 : F_X7_say 34 = J_iconst (-3) 36 := (F_X7_say_0_59_r rfl).trans ((F_X7_say_31_59_l rfl).trans (ftl_X7_say_34))
theorem ft_X7_say_36 : F_X7_say 36 = J_ireturn 0 0 := (F_X7_say_0_59_r rfl).trans ((F_X7_say_31_59_l rfl).trans (ftl_X7_say_36))
theorem ft_X7_say_37 : F_X7_say 37 = J_aload 0 38 := (F_X7_say_0_59_r rfl).trans ((F_X7_say_31_59_l rfl).trans (ftl_X7_say_37))
theorem ft_X7_say_38 : F_X7_say 38 = J_callV 7 S_X7_note 0 41 := (F_X7_say_0_59_r rfl).trans ((F_X7_say_31_59_l rfl).trans (ftl_X7_say_38))
theorem ft_X7_say_41 : F_X7_say 41 = J_aload 0 42 := (F_X7_say_0_59_r rfl).trans ((F_X7_say_31_59_l rfl).trans (ftl_X7_say_41))
theorem ft_X7_say_42 : F_X7_say 42 = J_aload 0 43 := (F_X7_say_0_59_r rfl).trans ((F_X7_say_31_59_l rfl).trans (ftl_X7_say_42))
theorem ft_X7_say_43 : F_X7_say 43 = J_getfield 7 10 46 := (F_X7_say_0_59_r rfl).trans ((F_X7_say_31_59_l rfl).trans (ftl_X7_say_43))
theorem ft_X7_say_46 : F_X7_say 46 = J_iload 1 47 := (F_X7_say_0_59_r rfl).trans ((F_X7_say_31_59_l rfl).trans (ftl_X7_say_46))
theorem ft_X7_say_47 : F_X7_say 47 = J_iload 2 48 := (F_X7_say_0_59_r rfl).trans ((F_X7_say_31_59_r rfl).trans (ftl_X7_say_47))
theorem ft_X7_say_48 : F_X7_say 48 = J_callV 7 S_X7_sayOn 3 51 := (F_X7_say_0_59_r rfl).trans ((F_X7_say_31_59_r rfl).trans (ftl_X7_say_48))
theorem ft_X7_say_51 : F_X7_say 51 = J_aload 0 52 := (F_X7_say_0_59_r rfl).trans ((F_X7_say_31_59_r rfl).trans (ftl_X7_say_51))
theorem ft_X7_say_52 : F_X7_say 52 = J_getfield 7 10 55 := (F_X7_say_0_59_r rfl).trans ((F_X7_say_31_59_r rfl).trans (ftl_X7_say_52))
theorem ft_X7_say_55 : F_X7_say 55 = J_iconst 4 56 := (F_X7_say_0_59_r rfl).trans ((F_X7_say_31_59_r rfl).trans (ftl_X7_say_55))
theorem ft_X7_say_56 : F_X7_say 56 = J_iload 1 57 := (F_X7_say_0_59_r rfl).trans ((F_X7_say_31_59_r rfl).trans (ftl_X7_say_56))
theorem ft_X7_say_57 : F_X7_say 57 = J_iadd 58 := (F_X7_say_0_59_r rfl).trans ((F_X7_say_31_59_r rfl).trans (ftl_X7_say_57))
theorem ft_X7_say_58 : F_X7_say 58 = J_iaload 59 := (F_X7_say_0_59_r rfl).trans ((F_X7_say_31_59_r rfl).trans (ftl_X7_say_58))
theorem ft_X7_say_59 : F_X7_say 59 = J_ireturn 0 0 := (F_X7_say_0_59_r rfl).trans ((F_X7_say_31_59_r rfl).trans (ftl_X7_say_59))
def S_X7_say : jSp := fun nb vs mem Q => jcs vs ≤ 3 ∧ jrun F_X7_say [] 60 Q (fun _ _ _ _ _ => False) 0 (jargs vs ++ []) [] mem (nb, 0, 0)
theorem ok_X7_say : jMeets Y_X7_say S_X7_say := fun _ _ _ _ h => Ok.inl OK_X7_say 60 [] pn7 rfl h
theorem co_say (p x : Int32) : Co S_X6_say S_X7_say [.ref 0, .int p, .int x] [.ref 71, .int p, .int x] := by
  intro n C z h hn
  obtain ⟨P, K, L, nx, ct, sn, h⟩ := h
  have k := h.ak
  have h4 := k.s.h4
  have h6 := k.s.h6
  have key : okTell C (C 9) p x → ∃ j, j < P ∧ p = nI j ∧ Inv P K (3960 * n) (tellR (C 9) p x) ∧ ∃ v, v < 5 ∧ rget (tellR (C 9) p x) p 2 = nI v := fun g => by
    obtain ⟨⟨g1, g2, g3⟩, g4, g5⟩ := g
    obtain ⟨j, hj, rfl⟩ := okPost_at k.s g1
    have hj4 : j < 4 := by omega
    rw [liveP_at hj4] at g4
    have := tellR_I k.iv hj4 (live0 g4) g2 g3
    refine ⟨j, hj, rfl, this.1, ?_⟩
    rw [rgj_2 hj4]
    rcases this.2 with q | q | q | q
    · exact ⟨1, by omega, q⟩
    · exact ⟨2, by omega, q⟩
    · exact ⟨3, by omega, q⟩
    · exact ⟨4, by omega, q⟩
  refine co_act (cond := okTell C (C 9) p x) h (fun nb Q q => s_X6_say k.rc h.hr.1.1 q) (fun g => ?_) (fun g => ?_) (fun g nb Q C1 b hq => ?_) (fun g nb Q C1 b hq => ?_)
  · obtain ⟨j, hj, rfl, -, v, hv, e⟩ := key g
    rw [e]
    exact nn_nI (by omega)
  · obtain ⟨j, hj, rfl, hI, -⟩ := key g
    exact hI.le (by omega)
  · obtain ⟨e3, e4, e5⟩ := b.2.2.2.1
    obtain ⟨⟨g1, g2, g3⟩, g4⟩ := g
    obtain ⟨j, hj, rfl⟩ := okPost_at k.s g1
    have hj4 : j < 4 := by omega
    rw [rgj_2 hj4] at hq
    have ms : MS 78 C1 P K (-1) := ⟨Or.inl rfl, b.s, by rw [b.2.2.1, h.h9]; exact Li_19⟩
    have hms := fun (nb : Nat) (z : Nat → Int64) (Q : jQ) => s_X7_maySay (nb := nb) (z := z) (Q := Q) ms (by rw [b.e]; exact k.iv) hj4
    rw [b.e, e5] at hms
    refine ⟨Nat.le_of_ble_eq_true rfl, ?_⟩
    simp -implicitDefEqProofs only [jr_0, jr_1, jr_2, j_iconst, j_lconst, j_iload0, j_aload0, j_istore0, j_astore0, j_iinc0, j_iload1, j_aload1, j_istore1, j_astore1, j_iinc1, j_iload2, j_aload2, j_istore2, j_astore2, j_iinc2, j_iload3, j_aload3, j_istore3, j_astore3, j_iinc3, j_iload4, j_aload4, j_istore4, j_astore4, j_iinc4, j_iload5, j_aload5, j_istore5, j_astore5, j_iinc5, j_iload6, j_aload6, j_istore6, j_astore6, j_iinc6, j_iload7, j_aload7, j_istore7, j_astore7, j_iinc7, j_iload8, j_aload8, j_istore8, j_astore8, j_iinc8, j_iadd, j_isub, j_imul, j_iand, j_ior, j_ixor, j_ishl, j_ishr, j_iushr, j_idiv, j_irem, j_ineg, j_ladd, j_lmul, j_land, j_lor, j_lcmp, j_lushr, j_lshl, j_i2l, j_l2i, j_dupI, j_dupR, j_popI, j_dup2, j_ifeq, j_iceq, j_ifne, j_icne, j_iflt, j_iclt, j_ifge, j_icge, j_ifgt, j_icgt, j_ifle, j_icle, j_goto, j_tsw, j_sw0, j_sw1, j_ireturn, j_zreturn, j_lreturn, j_return, j_getfield, j_putI, j_putJ, j_putR, j_iaload, j_baload, j_iastore, j_bastore, j_aaload, j_q, j_aastore, j_acopy, j_mmin, j_mmax, j_mabs, j_objinit, j_new, j_newI, j_newQ, j_sld, j_slen, j_callV0, j_callI0, j_callS0, j_callV1, j_callI1, j_callS1, j_callV2, j_callI2, j_callS2, j_callV3, j_callS3, j_callV4, j_callS4, j_callV5, j_callS5, j_pushS, j_pushN, j_sh0, j_sh1, j_sh2, j_sh3, j_sh4, Int32.reduceAdd, Int32.reduceMul, Int32.reduceSub, Int32.reduceLT, Int32.reduceLE, eq_self, i32_10, i32_01, ne_eq, hrow_s, hrow_n, ne10, ne100, ne1000, ne7, ne4, ne14, ne9973, or_true, true_or, or_false, false_or, not_true_eq_false, not_false_eq_true, false_implies, implies_true, and_true, forall_const, true_implies, jargs_n, jargs_r, jargs_i, List.cons_append, List.nil_append, true_and, Nat.reduceEqDiff, reduceIte, ft_X7_say_0, ft_X7_say_1, ft_X7_say_2, ft_X7_say_5, ft_X7_say_8, ft_X7_say_9, ft_X7_say_10, ft_X7_say_11, ft_X7_say_12, ft_X7_say_13, ft_X7_say_16, ft_X7_say_19, ft_X7_say_21, ft_X7_say_22, ft_X7_say_23, ft_X7_say_24, ft_X7_say_27, ft_X7_say_28, ft_X7_say_31, ft_X7_say_34, ft_X7_say_36, ft_X7_say_37, ft_X7_say_38, ft_X7_say_41, ft_X7_say_42, ft_X7_say_43, ft_X7_say_46, ft_X7_say_47, ft_X7_say_48, ft_X7_say_51, ft_X7_say_52, ft_X7_say_55, ft_X7_say_56, ft_X7_say_57, ft_X7_say_58, ft_X7_say_59, rc_71, fl_71_10, s_X7_isPost b.s, okPost_c e3, zb_t g1, ne1_0, s_X7_in, zb_t (show 0 ≤ x ∧ x ≤ 5 from ⟨Int32.not_lt.mp g2, g3⟩), hms, zb_t g4]
    refine s_X7_note b.2.2.2.2.1.1 b.2.2.2.2.1.2 b.2.2.2.2.2.1 b.2.2.2.2.2.2 fun C2 nt => ?_
    obtain ⟨s2, e78, -, -⟩ := b.nt nt
    simp -implicitDefEqProofs only [jr_0, jr_1, jr_2, j_iconst, j_lconst, j_iload0, j_aload0, j_istore0, j_astore0, j_iinc0, j_iload1, j_aload1, j_istore1, j_astore1, j_iinc1, j_iload2, j_aload2, j_istore2, j_astore2, j_iinc2, j_iload3, j_aload3, j_istore3, j_astore3, j_iinc3, j_iload4, j_aload4, j_istore4, j_astore4, j_iinc4, j_iload5, j_aload5, j_istore5, j_astore5, j_iinc5, j_iload6, j_aload6, j_istore6, j_astore6, j_iinc6, j_iload7, j_aload7, j_istore7, j_astore7, j_iinc7, j_iload8, j_aload8, j_istore8, j_astore8, j_iinc8, j_iadd, j_isub, j_imul, j_iand, j_ior, j_ixor, j_ishl, j_ishr, j_iushr, j_idiv, j_irem, j_ineg, j_ladd, j_lmul, j_land, j_lor, j_lcmp, j_lushr, j_lshl, j_i2l, j_l2i, j_dupI, j_dupR, j_popI, j_dup2, j_ifeq, j_iceq, j_ifne, j_icne, j_iflt, j_iclt, j_ifge, j_icge, j_ifgt, j_icgt, j_ifle, j_icle, j_goto, j_tsw, j_sw0, j_sw1, j_ireturn, j_zreturn, j_lreturn, j_return, j_getfield, j_putI, j_putJ, j_putR, j_iaload, j_baload, j_iastore, j_bastore, j_aaload, j_q, j_aastore, j_acopy, j_mmin, j_mmax, j_mabs, j_objinit, j_new, j_newI, j_newQ, j_sld, j_slen, j_callV0, j_callI0, j_callS0, j_callV1, j_callI1, j_callS1, j_callV2, j_callI2, j_callS2, j_callV3, j_callS3, j_callV4, j_callS4, j_callV5, j_callS5, j_pushS, j_pushN, j_sh0, j_sh1, j_sh2, j_sh3, j_sh4, Int32.reduceAdd, Int32.reduceMul, Int32.reduceSub, Int32.reduceLT, Int32.reduceLE, eq_self, i32_10, i32_01, ne_eq, hrow_s, hrow_n, ne10, ne100, ne1000, ne7, ne4, ne14, ne9973, or_true, true_or, or_false, false_or, not_true_eq_false, not_false_eq_true, false_implies, implies_true, and_true, forall_const, true_implies, jargs_n, jargs_r, jargs_i, List.cons_append, List.nil_append, true_and, Nat.reduceEqDiff, reduceIte, ft_X7_say_0, ft_X7_say_1, ft_X7_say_2, ft_X7_say_5, ft_X7_say_8, ft_X7_say_9, ft_X7_say_10, ft_X7_say_11, ft_X7_say_12, ft_X7_say_13, ft_X7_say_16, ft_X7_say_19, ft_X7_say_21, ft_X7_say_22, ft_X7_say_23, ft_X7_say_24, ft_X7_say_27, ft_X7_say_28, ft_X7_say_31, ft_X7_say_34, ft_X7_say_36, ft_X7_say_37, ft_X7_say_38, ft_X7_say_41, ft_X7_say_42, ft_X7_say_43, ft_X7_say_46, ft_X7_say_47, ft_X7_say_48, ft_X7_say_51, ft_X7_say_52, ft_X7_say_55, ft_X7_say_56, ft_X7_say_57, ft_X7_say_58, ft_X7_say_59, rc_71, fl_71_10, e78, s_X7_sayOn jmr78 hj4 g2 g3, ar_4 jmr78 hj4]
    exact hq C2 _ nt (Mo.rf.hr (Or.inl rfl)) hrow_s
  · obtain ⟨e3, e4, e5⟩ := b.2.2.2.1
    unfold okTell at g
    refine ⟨Nat.le_of_ble_eq_true rfl, ?_⟩
    by_cases g1 : okPost C p
    · rw [pick_t g1] at hq
      obtain ⟨j, hj, rfl⟩ := okPost_at k.s g1
      have hj4 : j < 4 := by omega
      by_cases g2 : ¬ x < 0 ∧ x ≤ 5
      · rw [pick_t g2] at hq
        have g4 : ¬ (liveP (C 9) (nI j) ∧ ¬ kdF (C 5) (C 9) (nI j) (-1) = 2) := fun q => g ⟨⟨g1, g2⟩, q⟩
        have ms : MS 78 C1 P K (-1) := ⟨Or.inl rfl, b.s, by rw [b.2.2.1, h.h9]; exact Li_19⟩
        have hms := fun (nb : Nat) (z : Nat → Int64) (Q : jQ) => s_X7_maySay (nb := nb) (z := z) (Q := Q) ms (by rw [b.e]; exact k.iv) hj4
        rw [b.e, e5] at hms
        simp -implicitDefEqProofs only [jr_0, jr_1, jr_2, j_iconst, j_lconst, j_iload0, j_aload0, j_istore0, j_astore0, j_iinc0, j_iload1, j_aload1, j_istore1, j_astore1, j_iinc1, j_iload2, j_aload2, j_istore2, j_astore2, j_iinc2, j_iload3, j_aload3, j_istore3, j_astore3, j_iinc3, j_iload4, j_aload4, j_istore4, j_astore4, j_iinc4, j_iload5, j_aload5, j_istore5, j_astore5, j_iinc5, j_iload6, j_aload6, j_istore6, j_astore6, j_iinc6, j_iload7, j_aload7, j_istore7, j_astore7, j_iinc7, j_iload8, j_aload8, j_istore8, j_astore8, j_iinc8, j_iadd, j_isub, j_imul, j_iand, j_ior, j_ixor, j_ishl, j_ishr, j_iushr, j_idiv, j_irem, j_ineg, j_ladd, j_lmul, j_land, j_lor, j_lcmp, j_lushr, j_lshl, j_i2l, j_l2i, j_dupI, j_dupR, j_popI, j_dup2, j_ifeq, j_iceq, j_ifne, j_icne, j_iflt, j_iclt, j_ifge, j_icge, j_ifgt, j_icgt, j_ifle, j_icle, j_goto, j_tsw, j_sw0, j_sw1, j_ireturn, j_zreturn, j_lreturn, j_return, j_getfield, j_putI, j_putJ, j_putR, j_iaload, j_baload, j_iastore, j_bastore, j_aaload, j_q, j_aastore, j_acopy, j_mmin, j_mmax, j_mabs, j_objinit, j_new, j_newI, j_newQ, j_sld, j_slen, j_callV0, j_callI0, j_callS0, j_callV1, j_callI1, j_callS1, j_callV2, j_callI2, j_callS2, j_callV3, j_callS3, j_callV4, j_callS4, j_callV5, j_callS5, j_pushS, j_pushN, j_sh0, j_sh1, j_sh2, j_sh3, j_sh4, Int32.reduceAdd, Int32.reduceMul, Int32.reduceSub, Int32.reduceLT, Int32.reduceLE, eq_self, i32_10, i32_01, ne_eq, hrow_s, hrow_n, ne10, ne100, ne1000, ne7, ne4, ne14, ne9973, or_true, true_or, or_false, false_or, not_true_eq_false, not_false_eq_true, false_implies, implies_true, and_true, forall_const, true_implies, jargs_n, jargs_r, jargs_i, List.cons_append, List.nil_append, true_and, Nat.reduceEqDiff, reduceIte, ft_X7_say_0, ft_X7_say_1, ft_X7_say_2, ft_X7_say_5, ft_X7_say_8, ft_X7_say_9, ft_X7_say_10, ft_X7_say_11, ft_X7_say_12, ft_X7_say_13, ft_X7_say_16, ft_X7_say_19, ft_X7_say_21, ft_X7_say_22, ft_X7_say_23, ft_X7_say_24, ft_X7_say_27, ft_X7_say_28, ft_X7_say_31, ft_X7_say_34, ft_X7_say_36, ft_X7_say_37, ft_X7_say_38, ft_X7_say_41, ft_X7_say_42, ft_X7_say_43, ft_X7_say_46, ft_X7_say_47, ft_X7_say_48, ft_X7_say_51, ft_X7_say_52, ft_X7_say_55, ft_X7_say_56, ft_X7_say_57, ft_X7_say_58, ft_X7_say_59, rc_71, fl_71_10, s_X7_isPost b.s, okPost_c e3, zb_t g1, ne1_0, s_X7_in, zb_t (show 0 ≤ x ∧ x ≤ 5 from ⟨Int32.not_lt.mp g2.1, g2.2⟩), hms, zb_f g4]
        exact hq
      · rw [pick_f g2] at hq
        simp -implicitDefEqProofs only [jr_0, jr_1, jr_2, j_iconst, j_lconst, j_iload0, j_aload0, j_istore0, j_astore0, j_iinc0, j_iload1, j_aload1, j_istore1, j_astore1, j_iinc1, j_iload2, j_aload2, j_istore2, j_astore2, j_iinc2, j_iload3, j_aload3, j_istore3, j_astore3, j_iinc3, j_iload4, j_aload4, j_istore4, j_astore4, j_iinc4, j_iload5, j_aload5, j_istore5, j_astore5, j_iinc5, j_iload6, j_aload6, j_istore6, j_astore6, j_iinc6, j_iload7, j_aload7, j_istore7, j_astore7, j_iinc7, j_iload8, j_aload8, j_istore8, j_astore8, j_iinc8, j_iadd, j_isub, j_imul, j_iand, j_ior, j_ixor, j_ishl, j_ishr, j_iushr, j_idiv, j_irem, j_ineg, j_ladd, j_lmul, j_land, j_lor, j_lcmp, j_lushr, j_lshl, j_i2l, j_l2i, j_dupI, j_dupR, j_popI, j_dup2, j_ifeq, j_iceq, j_ifne, j_icne, j_iflt, j_iclt, j_ifge, j_icge, j_ifgt, j_icgt, j_ifle, j_icle, j_goto, j_tsw, j_sw0, j_sw1, j_ireturn, j_zreturn, j_lreturn, j_return, j_getfield, j_putI, j_putJ, j_putR, j_iaload, j_baload, j_iastore, j_bastore, j_aaload, j_q, j_aastore, j_acopy, j_mmin, j_mmax, j_mabs, j_objinit, j_new, j_newI, j_newQ, j_sld, j_slen, j_callV0, j_callI0, j_callS0, j_callV1, j_callI1, j_callS1, j_callV2, j_callI2, j_callS2, j_callV3, j_callS3, j_callV4, j_callS4, j_callV5, j_callS5, j_pushS, j_pushN, j_sh0, j_sh1, j_sh2, j_sh3, j_sh4, Int32.reduceAdd, Int32.reduceMul, Int32.reduceSub, Int32.reduceLT, Int32.reduceLE, eq_self, i32_10, i32_01, ne_eq, hrow_s, hrow_n, ne10, ne100, ne1000, ne7, ne4, ne14, ne9973, or_true, true_or, or_false, false_or, not_true_eq_false, not_false_eq_true, false_implies, implies_true, and_true, forall_const, true_implies, jargs_n, jargs_r, jargs_i, List.cons_append, List.nil_append, true_and, Nat.reduceEqDiff, reduceIte, ft_X7_say_0, ft_X7_say_1, ft_X7_say_2, ft_X7_say_5, ft_X7_say_8, ft_X7_say_9, ft_X7_say_10, ft_X7_say_11, ft_X7_say_12, ft_X7_say_13, ft_X7_say_16, ft_X7_say_19, ft_X7_say_21, ft_X7_say_22, ft_X7_say_23, ft_X7_say_24, ft_X7_say_27, ft_X7_say_28, ft_X7_say_31, ft_X7_say_34, ft_X7_say_36, ft_X7_say_37, ft_X7_say_38, ft_X7_say_41, ft_X7_say_42, ft_X7_say_43, ft_X7_say_46, ft_X7_say_47, ft_X7_say_48, ft_X7_say_51, ft_X7_say_52, ft_X7_say_55, ft_X7_say_56, ft_X7_say_57, ft_X7_say_58, ft_X7_say_59, rc_71, s_X7_isPost b.s, okPost_c e3, zb_t g1, ne1_0, s_X7_in, zb_f (show ¬ (0 ≤ x ∧ x ≤ 5) from fun q => g2 ⟨Int32.not_lt.mpr q.1, q.2⟩)]
        exact hq
    · rw [pick_f g1] at hq
      simp -implicitDefEqProofs only [jr_0, jr_1, jr_2, j_iconst, j_lconst, j_iload0, j_aload0, j_istore0, j_astore0, j_iinc0, j_iload1, j_aload1, j_istore1, j_astore1, j_iinc1, j_iload2, j_aload2, j_istore2, j_astore2, j_iinc2, j_iload3, j_aload3, j_istore3, j_astore3, j_iinc3, j_iload4, j_aload4, j_istore4, j_astore4, j_iinc4, j_iload5, j_aload5, j_istore5, j_astore5, j_iinc5, j_iload6, j_aload6, j_istore6, j_astore6, j_iinc6, j_iload7, j_aload7, j_istore7, j_astore7, j_iinc7, j_iload8, j_aload8, j_istore8, j_astore8, j_iinc8, j_iadd, j_isub, j_imul, j_iand, j_ior, j_ixor, j_ishl, j_ishr, j_iushr, j_idiv, j_irem, j_ineg, j_ladd, j_lmul, j_land, j_lor, j_lcmp, j_lushr, j_lshl, j_i2l, j_l2i, j_dupI, j_dupR, j_popI, j_dup2, j_ifeq, j_iceq, j_ifne, j_icne, j_iflt, j_iclt, j_ifge, j_icge, j_ifgt, j_icgt, j_ifle, j_icle, j_goto, j_tsw, j_sw0, j_sw1, j_ireturn, j_zreturn, j_lreturn, j_return, j_getfield, j_putI, j_putJ, j_putR, j_iaload, j_baload, j_iastore, j_bastore, j_aaload, j_q, j_aastore, j_acopy, j_mmin, j_mmax, j_mabs, j_objinit, j_new, j_newI, j_newQ, j_sld, j_slen, j_callV0, j_callI0, j_callS0, j_callV1, j_callI1, j_callS1, j_callV2, j_callI2, j_callS2, j_callV3, j_callS3, j_callV4, j_callS4, j_callV5, j_callS5, j_pushS, j_pushN, j_sh0, j_sh1, j_sh2, j_sh3, j_sh4, Int32.reduceAdd, Int32.reduceMul, Int32.reduceSub, Int32.reduceLT, Int32.reduceLE, eq_self, i32_10, i32_01, ne_eq, hrow_s, hrow_n, ne10, ne100, ne1000, ne7, ne4, ne14, ne9973, or_true, true_or, or_false, false_or, not_true_eq_false, not_false_eq_true, false_implies, implies_true, and_true, forall_const, true_implies, jargs_n, jargs_r, jargs_i, List.cons_append, List.nil_append, true_and, Nat.reduceEqDiff, reduceIte, ft_X7_say_0, ft_X7_say_1, ft_X7_say_2, ft_X7_say_5, ft_X7_say_8, ft_X7_say_9, ft_X7_say_10, ft_X7_say_11, ft_X7_say_12, ft_X7_say_13, ft_X7_say_16, ft_X7_say_19, ft_X7_say_21, ft_X7_say_22, ft_X7_say_23, ft_X7_say_24, ft_X7_say_27, ft_X7_say_28, ft_X7_say_31, ft_X7_say_34, ft_X7_say_36, ft_X7_say_37, ft_X7_say_38, ft_X7_say_41, ft_X7_say_42, ft_X7_say_43, ft_X7_say_46, ft_X7_say_47, ft_X7_say_48, ft_X7_say_51, ft_X7_say_52, ft_X7_say_55, ft_X7_say_56, ft_X7_say_57, ft_X7_say_58, ft_X7_say_59, rc_71, s_X7_isPost b.s, okPost_c e3, zb_f g1]
      exact hq
/-! reset -/
theorem postsIn_16 {ρ : Nat → Int32} {v : Int32} : ∃ m, m < 16 ∧ postsInF ρ v = nI m := by
  unfold postsInF orF
  by_cases g0 : ρ 4 = v <;> by_cases g1 : ρ 5 = v <;> by_cases g2 : ρ 6 = v <;> by_cases g3 : ρ 7 = v <;> simp only [g0, g1, g2, g3, reduceIte]
  · exact ⟨15, by decide, by decide⟩
  · exact ⟨7, by decide, by decide⟩
  · exact ⟨11, by decide, by decide⟩
  · exact ⟨3, by decide, by decide⟩
  · exact ⟨13, by decide, by decide⟩
  · exact ⟨5, by decide, by decide⟩
  · exact ⟨9, by decide, by decide⟩
  · exact ⟨1, by decide, by decide⟩
  · exact ⟨14, by decide, by decide⟩
  · exact ⟨6, by decide, by decide⟩
  · exact ⟨10, by decide, by decide⟩
  · exact ⟨2, by decide, by decide⟩
  · exact ⟨12, by decide, by decide⟩
  · exact ⟨4, by decide, by decide⟩
  · exact ⟨8, by decide, by decide⟩
  · exact ⟨0, by decide, by decide⟩
theorem ones_bc : ∀ m, m < 16 → onesF (nI m) = bcF (nI m) ∧ ¬ bcF (nI m) < 0 := by decide +kernel
def F_X7_reset_0 : Nat → jT := fun pc => (bif Nat.blt pc 11 then (bif Nat.blt pc 5 then (bif Nat.blt pc 1 then (bif Nat.beq pc 0 then J_aload 0 1 else jbad) else (bif Nat.blt pc 2 then (bif Nat.beq pc 1 then J_iload 1 2 else jbad) else (bif Nat.beq pc 2 then J_callV 7 S_X7_isPost 1 5 else jbad))) else (bif Nat.blt pc 9 then (bif Nat.blt pc 8 then (bif Nat.beq pc 5 then J_ifne 10 8 else jbad) else (bif Nat.beq pc 8 then J_iconst (-1) 9 else jbad)) else (bif Nat.blt pc 10 then (bif Nat.beq pc 9 then J_ireturn 0 0 else jbad) else (bif Nat.beq pc 10 then J_aload 0 11 else jbad)))) else (bif Nat.blt pc 17 then (bif Nat.blt pc 15 then (bif Nat.blt pc 14 then (bif Nat.beq pc 11 then J_getfield 7 10 14 else jbad) else (bif Nat.beq pc 14 then J_iconst 4 15 else jbad)) else (bif Nat.blt pc 16 then (bif Nat.beq pc 15 then J_iload 1 16 else jbad) else (bif Nat.beq pc 16 then J_iadd 17 else jbad))) else (bif Nat.blt pc 19 then (bif Nat.blt pc 18 then (bif Nat.beq pc 17 then J_iaload 18 else jbad) else (bif Nat.beq pc 18 then J_iconst 4 19 else jbad)) else (bif Nat.blt pc 22 then (bif Nat.beq pc 19 then J_iceq 25 22 else jbad) else (bif Nat.beq pc 22 then J_iconst (-3) 24 else jbad)))))
theorem ftl_X7_reset_0 : F_X7_reset_0 0 = J_aload 0 1 := rfl
theorem ftl_X7_reset_1 : F_X7_reset_0 1 = J_iload 1 2 := rfl
theorem ftl_X7_reset_2 : F_X7_reset_0 2 = J_callV 7 S_X7_isPost 1 5 := rfl
theorem ftl_X7_reset_5 : F_X7_reset_0 5 = J_ifne 10 8 := rfl
theorem ftl_X7_reset_8 : F_X7_reset_0 8 = J_iconst (-1) 9 := rfl
theorem ftl_X7_reset_9 : F_X7_reset_0 9 = J_ireturn 0 0 := rfl
theorem ftl_X7_reset_10 : F_X7_reset_0 10 = J_aload 0 11 := rfl
theorem ftl_X7_reset_11 : F_X7_reset_0 11 = J_getfield 7 10 14 := rfl
theorem ftl_X7_reset_14 : F_X7_reset_0 14 = J_iconst 4 15 := rfl
theorem ftl_X7_reset_15 : F_X7_reset_0 15 = J_iload 1 16 := rfl
theorem ftl_X7_reset_16 : F_X7_reset_0 16 = J_iadd 17 := rfl
theorem ftl_X7_reset_17 : F_X7_reset_0 17 = J_iaload 18 := rfl
theorem ftl_X7_reset_18 : F_X7_reset_0 18 = J_iconst 4 19 := rfl
theorem ftl_X7_reset_19 : F_X7_reset_0 19 = J_iceq 25 22 := rfl
theorem ftl_X7_reset_22 : F_X7_reset_0 22 = J_iconst (-3) 24 := rfl
theorem F_X7_reset_0_ok : jOK Y_X7_reset none (F_X7_reset_0) := (jOK_node (jOK_node (jOK_node (jOK_leaf (sn_aload_n dX7_reset_0 rfl rfl)) (jOK_node (jOK_leaf (sn_iload_n dX7_reset_1 rfl rfl)) (jOK_leaf (sn_callV (Y' := Y_X7_isPost) ok_X7_isPost dX7_reset_2 rfl rfl rfl tw_788 tw_790 tp_33 tw_8 jc_X7_isPost rfl ⟨by decide, by decide, rfl⟩ ⟨by decide, by decide⟩)))) (jOK_node (jOK_node (jOK_leaf (sn_ifne dX7_reset_5 rfl rfl)) (jOK_leaf (sn_iconst dX7_reset_8 rfl rfl))) (jOK_node (jOK_leaf (sn_ireturn dX7_reset_9 rfl rfl)) (jOK_leaf (sn_aload_n dX7_reset_10 rfl rfl))))) (jOK_node (jOK_node (jOK_node (jOK_leaf (sn_getfield dX7_reset_11 rfl rfl (by decide) tw_624 jin7)) (jOK_leaf (sn_iconst dX7_reset_14 rfl rfl))) (jOK_node (jOK_leaf (sn_iload_n dX7_reset_15 rfl rfl)) (jOK_leaf (sn_iadd dX7_reset_16 rfl)))) (jOK_node (jOK_node (jOK_leaf (sn_iaload dX7_reset_17 rfl)) (jOK_leaf (sn_iconst dX7_reset_18 rfl rfl))) (jOK_node (jOK_leaf (sn_iceq dX7_reset_19 rfl rfl)) (jOK_leaf (sn_bipush dX7_reset_22 rfl rfl))))))
def F_X7_reset_24 : Nat → jT := fun pc => (bif Nat.blt pc 36 then (bif Nat.blt pc 30 then (bif Nat.blt pc 26 then (bif Nat.blt pc 25 then (bif Nat.beq pc 24 then J_ireturn 0 0 else jbad) else (bif Nat.beq pc 25 then J_aload 0 26 else jbad)) else (bif Nat.blt pc 29 then (bif Nat.beq pc 26 then J_callV 7 S_X7_note 0 29 else jbad) else (bif Nat.beq pc 29 then J_aload 0 30 else jbad))) else (bif Nat.blt pc 34 then (bif Nat.blt pc 31 then (bif Nat.beq pc 30 then J_aload 0 31 else jbad) else (bif Nat.beq pc 31 then J_getfield 7 10 34 else jbad)) else (bif Nat.blt pc 35 then (bif Nat.beq pc 34 then J_iload 1 35 else jbad) else (bif Nat.beq pc 35 then J_iconst 1 36 else jbad)))) else (bif Nat.blt pc 44 then (bif Nat.blt pc 40 then (bif Nat.blt pc 39 then (bif Nat.beq pc 36 then J_callV 7 S_X7_clearAt 3 39 else jbad) else (bif Nat.beq pc 39 then J_aload 0 40 else jbad)) else (bif Nat.blt pc 41 then (bif Nat.beq pc 40 then J_aload 0 41 else jbad) else (bif Nat.beq pc 41 then J_getfield 7 10 44 else jbad))) else (bif Nat.blt pc 48 then (bif Nat.blt pc 45 then (bif Nat.beq pc 44 then J_iconst 4 45 else jbad) else (bif Nat.beq pc 45 then J_callV 7 S_X7_inState 2 48 else jbad)) else (bif Nat.blt pc 51 then (bif Nat.beq pc 48 then J_callS S_X7_ones 1 51 else jbad) else (bif Nat.beq pc 51 then J_ireturn 0 0 else jbad)))))
theorem ftl_X7_reset_24 : F_X7_reset_24 24 = J_ireturn 0 0 := rfl
theorem ftl_X7_reset_25 : F_X7_reset_24 25 = J_aload 0 26 := rfl
theorem ftl_X7_reset_26 : F_X7_reset_24 26 = J_callV 7 S_X7_note 0 29 := rfl
theorem ftl_X7_reset_29 : F_X7_reset_24 29 = J_aload 0 30 := rfl
theorem ftl_X7_reset_30 : F_X7_reset_24 30 = J_aload 0 31 := rfl
theorem ftl_X7_reset_31 : F_X7_reset_24 31 = J_getfield 7 10 34 := rfl
theorem ftl_X7_reset_34 : F_X7_reset_24 34 = J_iload 1 35 := rfl
theorem ftl_X7_reset_35 : F_X7_reset_24 35 = J_iconst 1 36 := rfl
theorem ftl_X7_reset_36 : F_X7_reset_24 36 = J_callV 7 S_X7_clearAt 3 39 := rfl
theorem ftl_X7_reset_39 : F_X7_reset_24 39 = J_aload 0 40 := rfl
theorem ftl_X7_reset_40 : F_X7_reset_24 40 = J_aload 0 41 := rfl
theorem ftl_X7_reset_41 : F_X7_reset_24 41 = J_getfield 7 10 44 := rfl
theorem ftl_X7_reset_44 : F_X7_reset_24 44 = J_iconst 4 45 := rfl
theorem ftl_X7_reset_45 : F_X7_reset_24 45 = J_callV 7 S_X7_inState 2 48 := rfl
theorem ftl_X7_reset_48 : F_X7_reset_24 48 = J_callS S_X7_ones 1 51 := rfl
theorem ftl_X7_reset_51 : F_X7_reset_24 51 = J_ireturn 0 0 := rfl
theorem F_X7_reset_24_ok : jOK Y_X7_reset none (F_X7_reset_24) := (jOK_node (jOK_node (jOK_node (jOK_node (jOK_leaf (sn_ireturn dX7_reset_24 rfl rfl)) (jOK_leaf (sn_aload_n dX7_reset_25 rfl rfl))) (jOK_node (jOK_leaf (sn_callV (Y' := Y_X7_note) ok_X7_note dX7_reset_26 rfl rfl rfl tw_826 tw_828 tp_39 tw_8 jc_X7_note rfl ⟨by decide, by decide, rfl⟩ ⟨by decide, by decide⟩)) (jOK_leaf (sn_aload_n dX7_reset_29 rfl rfl)))) (jOK_node (jOK_node (jOK_leaf (sn_aload_n dX7_reset_30 rfl rfl)) (jOK_leaf (sn_getfield dX7_reset_31 rfl rfl (by decide) tw_624 jin7))) (jOK_node (jOK_leaf (sn_iload_n dX7_reset_34 rfl rfl)) (jOK_leaf (sn_iconst dX7_reset_35 rfl rfl))))) (jOK_node (jOK_node (jOK_node (jOK_leaf (sn_callV (Y' := Y_X7_clearAt) ok_X7_clearAt dX7_reset_36 rfl rfl rfl tw_880 tw_882 tp_50 tw_8 jc_X7_clearAt rfl ⟨by decide, by decide, rfl⟩ ⟨by decide, by decide⟩)) (jOK_leaf (sn_aload_n dX7_reset_39 rfl rfl))) (jOK_node (jOK_leaf (sn_aload_n dX7_reset_40 rfl rfl)) (jOK_leaf (sn_getfield dX7_reset_41 rfl rfl (by decide) tw_624 jin7)))) (jOK_node (jOK_node (jOK_leaf (sn_iconst dX7_reset_44 rfl rfl)) (jOK_leaf (sn_callV (Y' := Y_X7_inState) ok_X7_inState dX7_reset_45 rfl rfl rfl tw_772 tw_774 tp_30 tw_8 jc_X7_inState rfl ⟨by decide, by decide, rfl⟩ ⟨by decide, by decide⟩))) (jOK_node (jOK_leaf (sn_callS (Y' := Y_X7_ones) ok_X7_ones dX7_reset_48 rfl rfl tw_908 tw_909 tw_8 jc_X7_ones ⟨by decide, by decide, rfl⟩ ⟨by decide, by decide⟩)) (jOK_leaf (sn_ireturn dX7_reset_51 rfl rfl))))))
def F_X7_reset_0_51 : Nat → jT := fun pc => bif Nat.blt pc 24 then F_X7_reset_0 pc else F_X7_reset_24 pc
theorem F_X7_reset_0_51_l {pc : Nat} (h : Nat.blt pc 24 = true) : F_X7_reset_0_51 pc = F_X7_reset_0 pc := by unfold F_X7_reset_0_51; rw [h]; rfl
theorem F_X7_reset_0_51_r {pc : Nat} (h : Nat.blt pc 24 = false) : F_X7_reset_0_51 pc = F_X7_reset_24 pc := by unfold F_X7_reset_0_51; rw [h]; rfl
theorem F_X7_reset_0_51_ok : jOK Y_X7_reset none (F_X7_reset_0_51) := jOK_node (F_X7_reset_0_ok) (F_X7_reset_24_ok)
def F_X7_reset : Nat → jT := F_X7_reset_0_51
theorem OK_X7_reset : jOK Y_X7_reset none (F_X7_reset) := F_X7_reset_0_51_ok
theorem ft_X7_reset_0 : F_X7_reset 0 = J_aload 0 1 := (F_X7_reset_0_51_l rfl).trans (ftl_X7_reset_0)
theorem ft_X7_reset_1 : F_X7_reset 1 = J_iload 1 2 := (F_X7_reset_0_51_l rfl).trans (ftl_X7_reset_1)
theorem ft_X7_reset_2 : F_X7_reset 2 = J_callV 7 S_X7_isPost 1 5 := (F_X7_reset_0_51_l rfl).trans (ftl_X7_reset_2)
theorem ft_X7_reset_5 : F_X7_reset 5 = J_ifne 10 8 := (F_X7_reset_0_51_l rfl).trans (ftl_X7_reset_5)
theorem ft_X7_reset_8 : F_X7_reset 8 = J_iconst (-1) 9 := (F_X7_reset_0_51_l rfl).trans (ftl_X7_reset_8)
theorem ft_X7_reset_9 : F_X7_reset 9 = J_ireturn 0 0 := (F_X7_reset_0_51_l rfl).trans (ftl_X7_reset_9)
theorem ft_X7_reset_10 : F_X7_reset 10 = J_aload 0 11 := (F_X7_reset_0_51_l rfl).trans (ftl_X7_reset_10)
theorem ft_X7_reset_11 : F_X7_reset 11 = J_getfield 7 10 14 := (F_X7_reset_0_51_l rfl).trans (ftl_X7_reset_11)
theorem ft_X7_reset_14 : F_X7_reset 14 = J_iconst 4 15 := (F_X7_reset_0_51_l rfl).trans (ftl_X7_reset_14)
theorem ft_X7_reset_15 : F_X7_reset 15 = J_iload 1 16 := (F_X7_reset_0_51_l rfl).trans (ftl_X7_reset_15)
theorem ft_X7_reset_16 : F_X7_reset 16 = J_iadd 17 := (F_X7_reset_0_51_l rfl).trans (ftl_X7_reset_16)
theorem ft_X7_reset_17 : F_X7_reset 17 = J_iaload 18 := (F_X7_reset_0_51_l rfl).trans (ftl_X7_reset_17)
theorem ft_X7_reset_18 : F_X7_reset 18 = J_iconst 4 19 := (F_X7_reset_0_51_l rfl).trans (ftl_X7_reset_18)
theorem ft_X7_reset_19 : F_X7_reset 19 = J_iceq 25 22 := (F_X7_reset_0_51_l rfl).trans (ftl_X7_reset_19)
theorem ft_X7_reset_22 : F_X7_reset 22 = J_iconst (-3) 24 := (F_X7_reset_0_51_l rfl).trans (ftl_X7_reset_22)
theorem ft_X7_reset_24 : F_X7_reset 24 = J_ireturn 0 0 := (F_X7_reset_0_51_r rfl).trans (ftl_X7_reset_24)
theorem ft_X7_reset_25 : F_X7_reset 25 = J_aload 0 26 := (F_X7_reset_0_51_r rfl).trans (ftl_X7_reset_25)
theorem ft_X7_reset_26 : F_X7_reset 26 = J_callV 7 S_X7_note 0 29 := (F_X7_reset_0_51_r rfl).trans (ftl_X7_reset_26)
theorem ft_X7_reset_29 : F_X7_reset 29 = J_aload 0 30 := (F_X7_reset_0_51_r rfl).trans (ftl_X7_reset_29)
theorem ft_X7_reset_30 : F_X7_reset 30 = J_aload 0 31 := (F_X7_reset_0_51_r rfl).trans (ftl_X7_reset_30)
theorem ft_X7_reset_31 : F_X7_reset 31 = J_getfield 7 10 34 := (F_X7_reset_0_51_r rfl).trans (ftl_X7_reset_31)
theorem ft_X7_reset_34 : F_X7_reset 34 = J_iload 1 35 := (F_X7_reset_0_51_r rfl).trans (ftl_X7_reset_34)
theorem ft_X7_reset_35 : F_X7_reset 35 = J_iconst 1 36 := (F_X7_reset_0_51_r rfl).trans (ftl_X7_reset_35)
theorem ft_X7_reset_36 : F_X7_reset 36 = J_callV 7 S_X7_clearAt 3 39 := (F_X7_reset_0_51_r rfl).trans (ftl_X7_reset_36)
theorem ft_X7_reset_39 : F_X7_reset 39 = J_aload 0 40 := (F_X7_reset_0_51_r rfl).trans (ftl_X7_reset_39)
theorem ft_X7_reset_40 : F_X7_reset 40 = J_aload 0 41 := (F_X7_reset_0_51_r rfl).trans (ftl_X7_reset_40)
theorem ft_X7_reset_41 : F_X7_reset 41 = J_getfield 7 10 44 := (F_X7_reset_0_51_r rfl).trans (ftl_X7_reset_41)
theorem ft_X7_reset_44 : F_X7_reset 44 = J_iconst 4 45 := (F_X7_reset_0_51_r rfl).trans (ftl_X7_reset_44)
theorem ft_X7_reset_45 : F_X7_reset 45 = J_callV 7 S_X7_inState 2 48 := (F_X7_reset_0_51_r rfl).trans (ftl_X7_reset_45)
theorem ft_X7_reset_48 : F_X7_reset 48 = J_callS S_X7_ones 1 51 := (F_X7_reset_0_51_r rfl).trans (ftl_X7_reset_48)
theorem ft_X7_reset_51 : F_X7_reset 51 = J_ireturn 0 0 := (F_X7_reset_0_51_r rfl).trans (ftl_X7_reset_51)
def S_X7_reset : jSp := fun nb vs mem Q => jcs vs ≤ 2 ∧ jrun F_X7_reset [] 60 Q (fun _ _ _ _ _ => False) 0 (jargs vs ++ []) [] mem (nb, 0, 0)
theorem ok_X7_reset : jMeets Y_X7_reset S_X7_reset := fun _ _ _ _ h => Ok.inl OK_X7_reset 60 [] pn7 rfl h
theorem co_reset (p : Int32) : Co S_X6_reset S_X7_reset [.ref 0, .int p] [.ref 71, .int p] := by
  intro n C z h hn
  obtain ⟨P, K, L, nx, ct, sn, h⟩ := h
  have k := h.ak
  have h4 := k.s.h4
  have h6 := k.s.h6
  have key : okPost C p ∧ rget (C 9) p 2 = 4 → ∃ j, j < P ∧ p = nI j ∧ C 9 (4 + j) = 4 ∧ Inv P K (3960 * n) (rstartF (C 9) p 1) := fun g => by
    obtain ⟨g1, g2⟩ := g
    obtain ⟨j, hj, rfl⟩ := okPost_at k.s g1
    have hj4 : j < 4 := by omega
    rw [rgj_2 hj4] at g2
    exact ⟨j, hj, rfl, g2, rstartF_I k.iv hj4 (by rw [g2]; decide) (Or.inl rfl)⟩
  refine co_act (cond := okPost C p ∧ rget (C 9) p 2 = 4) h (fun nb Q q => s_X6_reset k.rc h.hr.1.1 q) (fun g => ?_) (fun g => ?_) (fun g nb Q C1 b hq => ?_) (fun g nb Q C1 b hq => ?_)
  · obtain ⟨m, hm, e⟩ := postsIn_16 (ρ := rstartF (C 9) p 1) (v := 4)
    rw [e]
    exact (ones_bc m hm).2
  · obtain ⟨j, hj, rfl, -, hI⟩ := key g
    exact hI.le (by omega)
  · obtain ⟨e3, e4, e5⟩ := b.2.2.2.1
    have g1 := g.1
    obtain ⟨j, hj, rfl, g2, hI⟩ := key g
    have hj4 : j < 4 := by omega
    refine ⟨Nat.le_of_ble_eq_true rfl, ?_⟩
    simp -implicitDefEqProofs only [jr_0, jr_1, jr_2, j_iconst, j_lconst, j_iload0, j_aload0, j_istore0, j_astore0, j_iinc0, j_iload1, j_aload1, j_istore1, j_astore1, j_iinc1, j_iload2, j_aload2, j_istore2, j_astore2, j_iinc2, j_iload3, j_aload3, j_istore3, j_astore3, j_iinc3, j_iload4, j_aload4, j_istore4, j_astore4, j_iinc4, j_iload5, j_aload5, j_istore5, j_astore5, j_iinc5, j_iload6, j_aload6, j_istore6, j_astore6, j_iinc6, j_iload7, j_aload7, j_istore7, j_astore7, j_iinc7, j_iload8, j_aload8, j_istore8, j_astore8, j_iinc8, j_iadd, j_isub, j_imul, j_iand, j_ior, j_ixor, j_ishl, j_ishr, j_iushr, j_idiv, j_irem, j_ineg, j_ladd, j_lmul, j_land, j_lor, j_lcmp, j_lushr, j_lshl, j_i2l, j_l2i, j_dupI, j_dupR, j_popI, j_dup2, j_ifeq, j_iceq, j_ifne, j_icne, j_iflt, j_iclt, j_ifge, j_icge, j_ifgt, j_icgt, j_ifle, j_icle, j_goto, j_tsw, j_sw0, j_sw1, j_ireturn, j_zreturn, j_lreturn, j_return, j_getfield, j_putI, j_putJ, j_putR, j_iaload, j_baload, j_iastore, j_bastore, j_aaload, j_q, j_aastore, j_acopy, j_mmin, j_mmax, j_mabs, j_objinit, j_new, j_newI, j_newQ, j_sld, j_slen, j_callV0, j_callI0, j_callS0, j_callV1, j_callI1, j_callS1, j_callV2, j_callI2, j_callS2, j_callV3, j_callS3, j_callV4, j_callS4, j_callV5, j_callS5, j_pushS, j_pushN, j_sh0, j_sh1, j_sh2, j_sh3, j_sh4, Int32.reduceAdd, Int32.reduceMul, Int32.reduceSub, Int32.reduceLT, Int32.reduceLE, eq_self, i32_10, i32_01, ne_eq, hrow_s, hrow_n, ne10, ne100, ne1000, ne7, ne4, ne14, ne9973, or_true, true_or, or_false, false_or, not_true_eq_false, not_false_eq_true, false_implies, implies_true, and_true, forall_const, true_implies, jargs_n, jargs_r, jargs_i, List.cons_append, List.nil_append, true_and, Nat.reduceEqDiff, reduceIte, ft_X7_reset_0, ft_X7_reset_1, ft_X7_reset_2, ft_X7_reset_5, ft_X7_reset_8, ft_X7_reset_9, ft_X7_reset_10, ft_X7_reset_11, ft_X7_reset_14, ft_X7_reset_15, ft_X7_reset_16, ft_X7_reset_17, ft_X7_reset_18, ft_X7_reset_19, ft_X7_reset_22, ft_X7_reset_24, ft_X7_reset_25, ft_X7_reset_26, ft_X7_reset_29, ft_X7_reset_30, ft_X7_reset_31, ft_X7_reset_34, ft_X7_reset_35, ft_X7_reset_36, ft_X7_reset_39, ft_X7_reset_40, ft_X7_reset_41, ft_X7_reset_44, ft_X7_reset_45, ft_X7_reset_48, ft_X7_reset_51, rc_71, fl_71_10, s_X7_isPost b.s, okPost_c e3, zb_t g1, ne1_0, ar_4 jmr78 hj4, b.e, g2]
    refine s_X7_note b.2.2.2.2.1.1 b.2.2.2.2.1.2 b.2.2.2.2.2.1 b.2.2.2.2.2.2 fun C2 nt => ?_
    obtain ⟨s2, e78, -, -⟩ := b.nt nt
    simp -implicitDefEqProofs only [jr_0, jr_1, jr_2, j_iconst, j_lconst, j_iload0, j_aload0, j_istore0, j_astore0, j_iinc0, j_iload1, j_aload1, j_istore1, j_astore1, j_iinc1, j_iload2, j_aload2, j_istore2, j_astore2, j_iinc2, j_iload3, j_aload3, j_istore3, j_astore3, j_iinc3, j_iload4, j_aload4, j_istore4, j_astore4, j_iinc4, j_iload5, j_aload5, j_istore5, j_astore5, j_iinc5, j_iload6, j_aload6, j_istore6, j_astore6, j_iinc6, j_iload7, j_aload7, j_istore7, j_astore7, j_iinc7, j_iload8, j_aload8, j_istore8, j_astore8, j_iinc8, j_iadd, j_isub, j_imul, j_iand, j_ior, j_ixor, j_ishl, j_ishr, j_iushr, j_idiv, j_irem, j_ineg, j_ladd, j_lmul, j_land, j_lor, j_lcmp, j_lushr, j_lshl, j_i2l, j_l2i, j_dupI, j_dupR, j_popI, j_dup2, j_ifeq, j_iceq, j_ifne, j_icne, j_iflt, j_iclt, j_ifge, j_icge, j_ifgt, j_icgt, j_ifle, j_icle, j_goto, j_tsw, j_sw0, j_sw1, j_ireturn, j_zreturn, j_lreturn, j_return, j_getfield, j_putI, j_putJ, j_putR, j_iaload, j_baload, j_iastore, j_bastore, j_aaload, j_q, j_aastore, j_acopy, j_mmin, j_mmax, j_mabs, j_objinit, j_new, j_newI, j_newQ, j_sld, j_slen, j_callV0, j_callI0, j_callS0, j_callV1, j_callI1, j_callS1, j_callV2, j_callI2, j_callS2, j_callV3, j_callS3, j_callV4, j_callS4, j_callV5, j_callS5, j_pushS, j_pushN, j_sh0, j_sh1, j_sh2, j_sh3, j_sh4, Int32.reduceAdd, Int32.reduceMul, Int32.reduceSub, Int32.reduceLT, Int32.reduceLE, eq_self, i32_10, i32_01, ne_eq, hrow_s, hrow_n, ne10, ne100, ne1000, ne7, ne4, ne14, ne9973, or_true, true_or, or_false, false_or, not_true_eq_false, not_false_eq_true, false_implies, implies_true, and_true, forall_const, true_implies, jargs_n, jargs_r, jargs_i, List.cons_append, List.nil_append, true_and, Nat.reduceEqDiff, reduceIte, ft_X7_reset_0, ft_X7_reset_1, ft_X7_reset_2, ft_X7_reset_5, ft_X7_reset_8, ft_X7_reset_9, ft_X7_reset_10, ft_X7_reset_11, ft_X7_reset_14, ft_X7_reset_15, ft_X7_reset_16, ft_X7_reset_17, ft_X7_reset_18, ft_X7_reset_19, ft_X7_reset_22, ft_X7_reset_24, ft_X7_reset_25, ft_X7_reset_26, ft_X7_reset_29, ft_X7_reset_30, ft_X7_reset_31, ft_X7_reset_34, ft_X7_reset_35, ft_X7_reset_36, ft_X7_reset_39, ft_X7_reset_40, ft_X7_reset_41, ft_X7_reset_44, ft_X7_reset_45, ft_X7_reset_48, ft_X7_reset_51, rc_71, fl_71_10, e78, s_X7_clearAt jmr78 hj4]
    refine s_X7_inState jmr78 (s2.mo (Mo.rf.hr (Or.inl rfl)) (Or.inl rfl)) (by rw [hrow_s]; exact hI) (by decide) ?_
    obtain ⟨m, hm, e⟩ := postsIn_16 (ρ := rstartF (C 9) (nI j) 1) (v := 4)
    rw [e] at hq
    simp -implicitDefEqProofs only [jr_0, jr_1, jr_2, j_iconst, j_lconst, j_iload0, j_aload0, j_istore0, j_astore0, j_iinc0, j_iload1, j_aload1, j_istore1, j_astore1, j_iinc1, j_iload2, j_aload2, j_istore2, j_astore2, j_iinc2, j_iload3, j_aload3, j_istore3, j_astore3, j_iinc3, j_iload4, j_aload4, j_istore4, j_astore4, j_iinc4, j_iload5, j_aload5, j_istore5, j_astore5, j_iinc5, j_iload6, j_aload6, j_istore6, j_astore6, j_iinc6, j_iload7, j_aload7, j_istore7, j_astore7, j_iinc7, j_iload8, j_aload8, j_istore8, j_astore8, j_iinc8, j_iadd, j_isub, j_imul, j_iand, j_ior, j_ixor, j_ishl, j_ishr, j_iushr, j_idiv, j_irem, j_ineg, j_ladd, j_lmul, j_land, j_lor, j_lcmp, j_lushr, j_lshl, j_i2l, j_l2i, j_dupI, j_dupR, j_popI, j_dup2, j_ifeq, j_iceq, j_ifne, j_icne, j_iflt, j_iclt, j_ifge, j_icge, j_ifgt, j_icgt, j_ifle, j_icle, j_goto, j_tsw, j_sw0, j_sw1, j_ireturn, j_zreturn, j_lreturn, j_return, j_getfield, j_putI, j_putJ, j_putR, j_iaload, j_baload, j_iastore, j_bastore, j_aaload, j_q, j_aastore, j_acopy, j_mmin, j_mmax, j_mabs, j_objinit, j_new, j_newI, j_newQ, j_sld, j_slen, j_callV0, j_callI0, j_callS0, j_callV1, j_callI1, j_callS1, j_callV2, j_callI2, j_callS2, j_callV3, j_callS3, j_callV4, j_callS4, j_callV5, j_callS5, j_pushS, j_pushN, j_sh0, j_sh1, j_sh2, j_sh3, j_sh4, Int32.reduceAdd, Int32.reduceMul, Int32.reduceSub, Int32.reduceLT, Int32.reduceLE, eq_self, i32_10, i32_01, ne_eq, hrow_s, hrow_n, ne10, ne100, ne1000, ne7, ne4, ne14, ne9973, or_true, true_or, or_false, false_or, not_true_eq_false, not_false_eq_true, false_implies, implies_true, and_true, forall_const, true_implies, jargs_n, jargs_r, jargs_i, List.cons_append, List.nil_append, true_and, Nat.reduceEqDiff, reduceIte, ft_X7_reset_0, ft_X7_reset_1, ft_X7_reset_2, ft_X7_reset_5, ft_X7_reset_8, ft_X7_reset_9, ft_X7_reset_10, ft_X7_reset_11, ft_X7_reset_14, ft_X7_reset_15, ft_X7_reset_16, ft_X7_reset_17, ft_X7_reset_18, ft_X7_reset_19, ft_X7_reset_22, ft_X7_reset_24, ft_X7_reset_25, ft_X7_reset_26, ft_X7_reset_29, ft_X7_reset_30, ft_X7_reset_31, ft_X7_reset_34, ft_X7_reset_35, ft_X7_reset_36, ft_X7_reset_39, ft_X7_reset_40, ft_X7_reset_41, ft_X7_reset_44, ft_X7_reset_45, ft_X7_reset_48, ft_X7_reset_51, e, s_X7_ones, (ones_bc m hm).1]
    exact hq C2 _ nt (Mo.rf.hr (Or.inl rfl)) hrow_s
  · obtain ⟨e3, e4, e5⟩ := b.2.2.2.1
    refine ⟨Nat.le_of_ble_eq_true rfl, ?_⟩
    by_cases g1 : okPost C p
    · rw [pick_t g1] at hq
      obtain ⟨j, hj, rfl⟩ := okPost_at k.s g1
      have hj4 : j < 4 := by omega
      have g2 : ¬ C 9 (4 + j) = 4 := fun q => g ⟨g1, by rw [rgj_2 hj4]; exact q⟩
      simp -implicitDefEqProofs only [jr_0, jr_1, jr_2, j_iconst, j_lconst, j_iload0, j_aload0, j_istore0, j_astore0, j_iinc0, j_iload1, j_aload1, j_istore1, j_astore1, j_iinc1, j_iload2, j_aload2, j_istore2, j_astore2, j_iinc2, j_iload3, j_aload3, j_istore3, j_astore3, j_iinc3, j_iload4, j_aload4, j_istore4, j_astore4, j_iinc4, j_iload5, j_aload5, j_istore5, j_astore5, j_iinc5, j_iload6, j_aload6, j_istore6, j_astore6, j_iinc6, j_iload7, j_aload7, j_istore7, j_astore7, j_iinc7, j_iload8, j_aload8, j_istore8, j_astore8, j_iinc8, j_iadd, j_isub, j_imul, j_iand, j_ior, j_ixor, j_ishl, j_ishr, j_iushr, j_idiv, j_irem, j_ineg, j_ladd, j_lmul, j_land, j_lor, j_lcmp, j_lushr, j_lshl, j_i2l, j_l2i, j_dupI, j_dupR, j_popI, j_dup2, j_ifeq, j_iceq, j_ifne, j_icne, j_iflt, j_iclt, j_ifge, j_icge, j_ifgt, j_icgt, j_ifle, j_icle, j_goto, j_tsw, j_sw0, j_sw1, j_ireturn, j_zreturn, j_lreturn, j_return, j_getfield, j_putI, j_putJ, j_putR, j_iaload, j_baload, j_iastore, j_bastore, j_aaload, j_q, j_aastore, j_acopy, j_mmin, j_mmax, j_mabs, j_objinit, j_new, j_newI, j_newQ, j_sld, j_slen, j_callV0, j_callI0, j_callS0, j_callV1, j_callI1, j_callS1, j_callV2, j_callI2, j_callS2, j_callV3, j_callS3, j_callV4, j_callS4, j_callV5, j_callS5, j_pushS, j_pushN, j_sh0, j_sh1, j_sh2, j_sh3, j_sh4, Int32.reduceAdd, Int32.reduceMul, Int32.reduceSub, Int32.reduceLT, Int32.reduceLE, eq_self, i32_10, i32_01, ne_eq, hrow_s, hrow_n, ne10, ne100, ne1000, ne7, ne4, ne14, ne9973, or_true, true_or, or_false, false_or, not_true_eq_false, not_false_eq_true, false_implies, implies_true, and_true, forall_const, true_implies, jargs_n, jargs_r, jargs_i, List.cons_append, List.nil_append, true_and, Nat.reduceEqDiff, reduceIte, ft_X7_reset_0, ft_X7_reset_1, ft_X7_reset_2, ft_X7_reset_5, ft_X7_reset_8, ft_X7_reset_9, ft_X7_reset_10, ft_X7_reset_11, ft_X7_reset_14, ft_X7_reset_15, ft_X7_reset_16, ft_X7_reset_17, ft_X7_reset_18, ft_X7_reset_19, ft_X7_reset_22, ft_X7_reset_24, ft_X7_reset_25, ft_X7_reset_26, ft_X7_reset_29, ft_X7_reset_30, ft_X7_reset_31, ft_X7_reset_34, ft_X7_reset_35, ft_X7_reset_36, ft_X7_reset_39, ft_X7_reset_40, ft_X7_reset_41, ft_X7_reset_44, ft_X7_reset_45, ft_X7_reset_48, ft_X7_reset_51, rc_71, fl_71_10, s_X7_isPost b.s, okPost_c e3, zb_t g1, ne1_0, ar_4 jmr78 hj4, b.e, g2]
      exact hq
    · rw [pick_f g1] at hq
      simp -implicitDefEqProofs only [jr_0, jr_1, jr_2, j_iconst, j_lconst, j_iload0, j_aload0, j_istore0, j_astore0, j_iinc0, j_iload1, j_aload1, j_istore1, j_astore1, j_iinc1, j_iload2, j_aload2, j_istore2, j_astore2, j_iinc2, j_iload3, j_aload3, j_istore3, j_astore3, j_iinc3, j_iload4, j_aload4, j_istore4, j_astore4, j_iinc4, j_iload5, j_aload5, j_istore5, j_astore5, j_iinc5, j_iload6, j_aload6, j_istore6, j_astore6, j_iinc6, j_iload7, j_aload7, j_istore7, j_astore7, j_iinc7, j_iload8, j_aload8, j_istore8, j_astore8, j_iinc8, j_iadd, j_isub, j_imul, j_iand, j_ior, j_ixor, j_ishl, j_ishr, j_iushr, j_idiv, j_irem, j_ineg, j_ladd, j_lmul, j_land, j_lor, j_lcmp, j_lushr, j_lshl, j_i2l, j_l2i, j_dupI, j_dupR, j_popI, j_dup2, j_ifeq, j_iceq, j_ifne, j_icne, j_iflt, j_iclt, j_ifge, j_icge, j_ifgt, j_icgt, j_ifle, j_icle, j_goto, j_tsw, j_sw0, j_sw1, j_ireturn, j_zreturn, j_lreturn, j_return, j_getfield, j_putI, j_putJ, j_putR, j_iaload, j_baload, j_iastore, j_bastore, j_aaload, j_q, j_aastore, j_acopy, j_mmin, j_mmax, j_mabs, j_objinit, j_new, j_newI, j_newQ, j_sld, j_slen, j_callV0, j_callI0, j_callS0, j_callV1, j_callI1, j_callS1, j_callV2, j_callI2, j_callS2, j_callV3, j_callS3, j_callV4, j_callS4, j_callV5, j_callS5, j_pushS, j_pushN, j_sh0, j_sh1, j_sh2, j_sh3, j_sh4, Int32.reduceAdd, Int32.reduceMul, Int32.reduceSub, Int32.reduceLT, Int32.reduceLE, eq_self, i32_10, i32_01, ne_eq, hrow_s, hrow_n, ne10, ne100, ne1000, ne7, ne4, ne14, ne9973, or_true, true_or, or_false, false_or, not_true_eq_false, not_false_eq_true, false_implies, implies_true, and_true, forall_const, true_implies, jargs_n, jargs_r, jargs_i, List.cons_append, List.nil_append, true_and, Nat.reduceEqDiff, reduceIte, ft_X7_reset_0, ft_X7_reset_1, ft_X7_reset_2, ft_X7_reset_5, ft_X7_reset_8, ft_X7_reset_9, ft_X7_reset_10, ft_X7_reset_11, ft_X7_reset_14, ft_X7_reset_15, ft_X7_reset_16, ft_X7_reset_17, ft_X7_reset_18, ft_X7_reset_19, ft_X7_reset_22, ft_X7_reset_24, ft_X7_reset_25, ft_X7_reset_26, ft_X7_reset_29, ft_X7_reset_30, ft_X7_reset_31, ft_X7_reset_34, ft_X7_reset_35, ft_X7_reset_36, ft_X7_reset_39, ft_X7_reset_40, ft_X7_reset_41, ft_X7_reset_44, ft_X7_reset_45, ft_X7_reset_48, ft_X7_reset_51, rc_71, s_X7_isPost b.s, okPost_c e3, zb_f g1]
      exact hq
/-! limit -/
def F_X7_limit_0 : Nat → jT := fun pc => (bif Nat.blt pc 10 then (bif Nat.blt pc 2 then (bif Nat.blt pc 1 then (bif Nat.beq pc 0 then J_iload 1 1 else jbad) else (bif Nat.beq pc 1 then J_iconst 0 2 else jbad)) else (bif Nat.blt pc 4 then (bif Nat.beq pc 2 then J_iconst 99 4 else jbad) else (bif Nat.blt pc 7 then (bif Nat.beq pc 4 then J_callS S_X7_in 3 7 else jbad) else (bif Nat.beq pc 7 then J_ifne 13 10 else jbad)))) else (bif Nat.blt pc 13 then (bif Nat.blt pc 12 then (bif Nat.beq pc 10 then J_iconst (-2) 12 else jbad) else (bif Nat.beq pc 12 then J_ireturn 0 0 else jbad)) else (bif Nat.blt pc 14 then (bif Nat.beq pc 13 then J_aload 0 14 else jbad) else (bif Nat.blt pc 17 then (bif Nat.beq pc 14 then J_callV 7 S_X7_note 0 17 else jbad) else (bif Nat.beq pc 17 then J_aload 0 18 else jbad)))))
theorem ftl_X7_limit_0 : F_X7_limit_0 0 = J_iload 1 1 := rfl
theorem ftl_X7_limit_1 : F_X7_limit_0 1 = J_iconst 0 2 := rfl
theorem ftl_X7_limit_2 : F_X7_limit_0 2 = J_iconst 99 4 := rfl
theorem ftl_X7_limit_4 : F_X7_limit_0 4 = J_callS S_X7_in 3 7 := rfl
theorem ftl_X7_limit_7 : F_X7_limit_0 7 = J_ifne 13 10 := rfl
theorem ftl_X7_limit_10 : F_X7_limit_0 10 = J_iconst (-2) 12 := rfl
theorem ftl_X7_limit_12 : F_X7_limit_0 12 = J_ireturn 0 0 := rfl
theorem ftl_X7_limit_13 : F_X7_limit_0 13 = J_aload 0 14 := rfl
theorem ftl_X7_limit_14 : F_X7_limit_0 14 = J_callV 7 S_X7_note 0 17 := rfl
theorem ftl_X7_limit_17 : F_X7_limit_0 17 = J_aload 0 18 := rfl
theorem F_X7_limit_0_ok : jOK Y_X7_limit none (F_X7_limit_0) := (jOK_node (jOK_node (jOK_node (jOK_leaf (sn_iload_n dX7_limit_0 rfl rfl)) (jOK_leaf (sn_iconst dX7_limit_1 rfl rfl))) (jOK_node (jOK_leaf (sn_bipush dX7_limit_2 rfl rfl)) (jOK_node (jOK_leaf (sn_callS (Y' := Y_X7_in) ok_X7_in dX7_limit_4 rfl rfl tw_737 tw_738 tw_8 jc_X7_in ⟨by decide, by decide, rfl⟩ ⟨by decide, by decide⟩)) (jOK_leaf (sn_ifne dX7_limit_7 rfl rfl))))) (jOK_node (jOK_node (jOK_leaf (sn_bipush dX7_limit_10 rfl rfl)) (jOK_leaf (sn_ireturn dX7_limit_12 rfl rfl))) (jOK_node (jOK_leaf (sn_aload_n dX7_limit_13 rfl rfl)) (jOK_node (jOK_leaf (sn_callV (Y' := Y_X7_note) ok_X7_note dX7_limit_14 rfl rfl rfl tw_826 tw_828 tp_39 tw_8 jc_X7_note rfl ⟨by decide, by decide, rfl⟩ ⟨by decide, by decide⟩)) (jOK_leaf (sn_aload_n dX7_limit_17 rfl rfl))))))
def F_X7_limit_18 : Nat → jT := fun pc => (bif Nat.blt pc 26 then (bif Nat.blt pc 23 then (bif Nat.blt pc 21 then (bif Nat.beq pc 18 then J_getfield 7 10 21 else jbad) else (bif Nat.beq pc 21 then J_iconst 38 23 else jbad)) else (bif Nat.blt pc 24 then (bif Nat.beq pc 23 then J_iaload 24 else jbad) else (bif Nat.blt pc 25 then (bif Nat.beq pc 24 then J_istore 2 25 else jbad) else (bif Nat.beq pc 25 then J_aload 0 26 else jbad)))) else (bif Nat.blt pc 32 then (bif Nat.blt pc 29 then (bif Nat.beq pc 26 then J_getfield 7 10 29 else jbad) else (bif Nat.blt pc 31 then (bif Nat.beq pc 29 then J_iconst 38 31 else jbad) else (bif Nat.beq pc 31 then J_iload 1 32 else jbad))) else (bif Nat.blt pc 33 then (bif Nat.beq pc 32 then J_iastore 33 else jbad) else (bif Nat.blt pc 34 then (bif Nat.beq pc 33 then J_iload 2 34 else jbad) else (bif Nat.beq pc 34 then J_ireturn 0 0 else jbad)))))
theorem ftl_X7_limit_18 : F_X7_limit_18 18 = J_getfield 7 10 21 := rfl
theorem ftl_X7_limit_21 : F_X7_limit_18 21 = J_iconst 38 23 := rfl
theorem ftl_X7_limit_23 : F_X7_limit_18 23 = J_iaload 24 := rfl
theorem ftl_X7_limit_24 : F_X7_limit_18 24 = J_istore 2 25 := rfl
theorem ftl_X7_limit_25 : F_X7_limit_18 25 = J_aload 0 26 := rfl
theorem ftl_X7_limit_26 : F_X7_limit_18 26 = J_getfield 7 10 29 := rfl
theorem ftl_X7_limit_29 : F_X7_limit_18 29 = J_iconst 38 31 := rfl
theorem ftl_X7_limit_31 : F_X7_limit_18 31 = J_iload 1 32 := rfl
theorem ftl_X7_limit_32 : F_X7_limit_18 32 = J_iastore 33 := rfl
theorem ftl_X7_limit_33 : F_X7_limit_18 33 = J_iload 2 34 := rfl
theorem ftl_X7_limit_34 : F_X7_limit_18 34 = J_ireturn 0 0 := rfl
theorem F_X7_limit_18_ok : jOK Y_X7_limit none (F_X7_limit_18) := (jOK_node (jOK_node (jOK_node (jOK_leaf (sn_getfield dX7_limit_18 rfl rfl (by decide) tw_624 jin7)) (jOK_leaf (sn_bipush dX7_limit_21 rfl rfl))) (jOK_node (jOK_leaf (sn_iaload dX7_limit_23 rfl)) (jOK_node (jOK_leaf (sn_istore_n dX7_limit_24 rfl rfl (by decide))) (jOK_leaf (sn_aload_n dX7_limit_25 rfl rfl))))) (jOK_node (jOK_node (jOK_leaf (sn_getfield dX7_limit_26 rfl rfl (by decide) tw_624 jin7)) (jOK_node (jOK_leaf (sn_bipush dX7_limit_29 rfl rfl)) (jOK_leaf (sn_iload_n dX7_limit_31 rfl rfl)))) (jOK_node (jOK_leaf (sn_iastore dX7_limit_32 rfl)) (jOK_node (jOK_leaf (sn_iload_n dX7_limit_33 rfl rfl)) (jOK_leaf (sn_ireturn dX7_limit_34 rfl rfl))))))
def F_X7_limit_0_34 : Nat → jT := fun pc => bif Nat.blt pc 18 then F_X7_limit_0 pc else F_X7_limit_18 pc
theorem F_X7_limit_0_34_l {pc : Nat} (h : Nat.blt pc 18 = true) : F_X7_limit_0_34 pc = F_X7_limit_0 pc := by unfold F_X7_limit_0_34; rw [h]; rfl
theorem F_X7_limit_0_34_r {pc : Nat} (h : Nat.blt pc 18 = false) : F_X7_limit_0_34 pc = F_X7_limit_18 pc := by unfold F_X7_limit_0_34; rw [h]; rfl
theorem F_X7_limit_0_34_ok : jOK Y_X7_limit none (F_X7_limit_0_34) := jOK_node (F_X7_limit_0_ok) (F_X7_limit_18_ok)
def F_X7_limit : Nat → jT := F_X7_limit_0_34
theorem OK_X7_limit : jOK Y_X7_limit none (F_X7_limit) := F_X7_limit_0_34_ok
theorem ft_X7_limit_0 : F_X7_limit 0 = J_iload 1 1 := (F_X7_limit_0_34_l rfl).trans (ftl_X7_limit_0)
theorem ft_X7_limit_1 : F_X7_limit 1 = J_iconst 0 2 := (F_X7_limit_0_34_l rfl).trans (ftl_X7_limit_1)
theorem ft_X7_limit_2 : F_X7_limit 2 = J_iconst 99 4 := (F_X7_limit_0_34_l rfl).trans (ftl_X7_limit_2)
theorem ft_X7_limit_4 : F_X7_limit 4 = J_callS S_X7_in 3 7 := (F_X7_limit_0_34_l rfl).trans (ftl_X7_limit_4)
theorem ft_X7_limit_7 : F_X7_limit 7 = J_ifne 13 10 := (F_X7_limit_0_34_l rfl).trans (ftl_X7_limit_7)
theorem ft_X7_limit_10 : F_X7_limit 10 = J_iconst (-2) 12 := (F_X7_limit_0_34_l rfl).trans (ftl_X7_limit_10)
theorem ft_X7_limit_12 : F_X7_limit 12 = J_ireturn 0 0 := (F_X7_limit_0_34_l rfl).trans (ftl_X7_limit_12)
theorem ft_X7_limit_13 : F_X7_limit 13 = J_aload 0 14 := (F_X7_limit_0_34_l rfl).trans (ftl_X7_limit_13)
theorem ft_X7_limit_14 : F_X7_limit 14 = J_callV 7 S_X7_note 0 17 := (F_X7_limit_0_34_l rfl).trans (ftl_X7_limit_14)
theorem ft_X7_limit_17 : F_X7_limit 17 = J_aload 0 18 := (F_X7_limit_0_34_l rfl).trans (ftl_X7_limit_17)
theorem ft_X7_limit_18 : F_X7_limit 18 = J_getfield 7 10 21 := (F_X7_limit_0_34_r rfl).trans (ftl_X7_limit_18)
theorem ft_X7_limit_21 : F_X7_limit 21 = J_iconst 38 23 := (F_X7_limit_0_34_r rfl).trans (ftl_X7_limit_21)
theorem ft_X7_limit_23 : F_X7_limit 23 = J_iaload 24 := (F_X7_limit_0_34_r rfl).trans (ftl_X7_limit_23)
theorem ft_X7_limit_24 : F_X7_limit 24 = J_istore 2 25 := (F_X7_limit_0_34_r rfl).trans (ftl_X7_limit_24)
theorem ft_X7_limit_25 : F_X7_limit 25 = J_aload 0 26 := (F_X7_limit_0_34_r rfl).trans (ftl_X7_limit_25)
theorem ft_X7_limit_26 : F_X7_limit 26 = J_getfield 7 10 29 := (F_X7_limit_0_34_r rfl).trans (ftl_X7_limit_26)
theorem ft_X7_limit_29 : F_X7_limit 29 = J_iconst 38 31 := (F_X7_limit_0_34_r rfl).trans (ftl_X7_limit_29)
theorem ft_X7_limit_31 : F_X7_limit 31 = J_iload 1 32 := (F_X7_limit_0_34_r rfl).trans (ftl_X7_limit_31)
theorem ft_X7_limit_32 : F_X7_limit 32 = J_iastore 33 := (F_X7_limit_0_34_r rfl).trans (ftl_X7_limit_32)
theorem ft_X7_limit_33 : F_X7_limit 33 = J_iload 2 34 := (F_X7_limit_0_34_r rfl).trans (ftl_X7_limit_33)
theorem ft_X7_limit_34 : F_X7_limit 34 = J_ireturn 0 0 := (F_X7_limit_0_34_r rfl).trans (ftl_X7_limit_34)
def S_X7_limit : jSp := fun nb vs mem Q => jcs vs ≤ 3 ∧ jrun F_X7_limit [] 60 Q (fun _ _ _ _ _ => False) 0 (jargs vs ++ [none]) [] mem (nb, 0, 0)
theorem ok_X7_limit : jMeets Y_X7_limit S_X7_limit := fun _ _ _ _ h => Ok.inl OK_X7_limit 60 [none] pn7 rfl h
theorem co_limit (x : Int32) : Co S_X6_limit S_X7_limit [.ref 0, .int x] [.ref 71, .int x] := by
  intro n C z h hn
  obtain ⟨P, K, L, nx, ct, sn, h⟩ := h
  have k := h.ak
  refine co_act (cond := ¬ x < 0 ∧ x ≤ 99) h (fun nb Q q => s_X6_limit k.rc h.hr.1.1 q) (fun g => ?_) (fun g => ?_) (fun g nb Q C1 b hq => ?_) (fun g nb Q C1 b hq => ?_)
  · obtain ⟨v, hv, e⟩ := k.iv.lim
    rw [e]
    exact nn_nI (by omega)
  · obtain ⟨m, hm, rfl⟩ := i32_rng (n := x) (m := 100) (by decide) g.1 fun q => absurd (Int32.le_trans q g.2) (by decide)
    exact (k.iv.upL (by omega)).le (by omega)
  · refine ⟨Nat.le_of_ble_eq_true rfl, ?_⟩
    simp -implicitDefEqProofs only [jr_0, jr_1, jr_2, j_iconst, j_lconst, j_iload0, j_aload0, j_istore0, j_astore0, j_iinc0, j_iload1, j_aload1, j_istore1, j_astore1, j_iinc1, j_iload2, j_aload2, j_istore2, j_astore2, j_iinc2, j_iload3, j_aload3, j_istore3, j_astore3, j_iinc3, j_iload4, j_aload4, j_istore4, j_astore4, j_iinc4, j_iload5, j_aload5, j_istore5, j_astore5, j_iinc5, j_iload6, j_aload6, j_istore6, j_astore6, j_iinc6, j_iload7, j_aload7, j_istore7, j_astore7, j_iinc7, j_iload8, j_aload8, j_istore8, j_astore8, j_iinc8, j_iadd, j_isub, j_imul, j_iand, j_ior, j_ixor, j_ishl, j_ishr, j_iushr, j_idiv, j_irem, j_ineg, j_ladd, j_lmul, j_land, j_lor, j_lcmp, j_lushr, j_lshl, j_i2l, j_l2i, j_dupI, j_dupR, j_popI, j_dup2, j_ifeq, j_iceq, j_ifne, j_icne, j_iflt, j_iclt, j_ifge, j_icge, j_ifgt, j_icgt, j_ifle, j_icle, j_goto, j_tsw, j_sw0, j_sw1, j_ireturn, j_zreturn, j_lreturn, j_return, j_getfield, j_putI, j_putJ, j_putR, j_iaload, j_baload, j_iastore, j_bastore, j_aaload, j_q, j_aastore, j_acopy, j_mmin, j_mmax, j_mabs, j_objinit, j_new, j_newI, j_newQ, j_sld, j_slen, j_callV0, j_callI0, j_callS0, j_callV1, j_callI1, j_callS1, j_callV2, j_callI2, j_callS2, j_callV3, j_callS3, j_callV4, j_callS4, j_callV5, j_callS5, j_pushS, j_pushN, j_sh0, j_sh1, j_sh2, j_sh3, j_sh4, Int32.reduceAdd, Int32.reduceMul, Int32.reduceSub, Int32.reduceLT, Int32.reduceLE, eq_self, i32_10, i32_01, ne_eq, hrow_s, hrow_n, ne10, ne100, ne1000, ne7, ne4, ne14, ne9973, or_true, true_or, or_false, false_or, not_true_eq_false, not_false_eq_true, false_implies, implies_true, and_true, forall_const, true_implies, jargs_n, jargs_r, jargs_i, List.cons_append, List.nil_append, true_and, Nat.reduceEqDiff, reduceIte, ft_X7_limit_0, ft_X7_limit_1, ft_X7_limit_2, ft_X7_limit_4, ft_X7_limit_7, ft_X7_limit_10, ft_X7_limit_12, ft_X7_limit_13, ft_X7_limit_14, ft_X7_limit_17, ft_X7_limit_18, ft_X7_limit_21, ft_X7_limit_23, ft_X7_limit_24, ft_X7_limit_25, ft_X7_limit_26, ft_X7_limit_29, ft_X7_limit_31, ft_X7_limit_32, ft_X7_limit_33, ft_X7_limit_34, rc_71, s_X7_in, zb_t (show 0 ≤ x ∧ x ≤ 99 from ⟨Int32.not_lt.mp g.1, g.2⟩), ne1_0]
    refine s_X7_note b.2.2.2.2.1.1 b.2.2.2.2.1.2 b.2.2.2.2.2.1 b.2.2.2.2.2.2 fun C2 nt => ?_
    obtain ⟨s2, e78, -, -⟩ := b.nt nt
    simp -implicitDefEqProofs only [jr_0, jr_1, jr_2, j_iconst, j_lconst, j_iload0, j_aload0, j_istore0, j_astore0, j_iinc0, j_iload1, j_aload1, j_istore1, j_astore1, j_iinc1, j_iload2, j_aload2, j_istore2, j_astore2, j_iinc2, j_iload3, j_aload3, j_istore3, j_astore3, j_iinc3, j_iload4, j_aload4, j_istore4, j_astore4, j_iinc4, j_iload5, j_aload5, j_istore5, j_astore5, j_iinc5, j_iload6, j_aload6, j_istore6, j_astore6, j_iinc6, j_iload7, j_aload7, j_istore7, j_astore7, j_iinc7, j_iload8, j_aload8, j_istore8, j_astore8, j_iinc8, j_iadd, j_isub, j_imul, j_iand, j_ior, j_ixor, j_ishl, j_ishr, j_iushr, j_idiv, j_irem, j_ineg, j_ladd, j_lmul, j_land, j_lor, j_lcmp, j_lushr, j_lshl, j_i2l, j_l2i, j_dupI, j_dupR, j_popI, j_dup2, j_ifeq, j_iceq, j_ifne, j_icne, j_iflt, j_iclt, j_ifge, j_icge, j_ifgt, j_icgt, j_ifle, j_icle, j_goto, j_tsw, j_sw0, j_sw1, j_ireturn, j_zreturn, j_lreturn, j_return, j_getfield, j_putI, j_putJ, j_putR, j_iaload, j_baload, j_iastore, j_bastore, j_aaload, j_q, j_aastore, j_acopy, j_mmin, j_mmax, j_mabs, j_objinit, j_new, j_newI, j_newQ, j_sld, j_slen, j_callV0, j_callI0, j_callS0, j_callV1, j_callI1, j_callS1, j_callV2, j_callI2, j_callS2, j_callV3, j_callS3, j_callV4, j_callS4, j_callV5, j_callS5, j_pushS, j_pushN, j_sh0, j_sh1, j_sh2, j_sh3, j_sh4, Int32.reduceAdd, Int32.reduceMul, Int32.reduceSub, Int32.reduceLT, Int32.reduceLE, eq_self, i32_10, i32_01, ne_eq, hrow_s, hrow_n, ne10, ne100, ne1000, ne7, ne4, ne14, ne9973, or_true, true_or, or_false, false_or, not_true_eq_false, not_false_eq_true, false_implies, implies_true, and_true, forall_const, true_implies, jargs_n, jargs_r, jargs_i, List.cons_append, List.nil_append, true_and, Nat.reduceEqDiff, reduceIte, ft_X7_limit_0, ft_X7_limit_1, ft_X7_limit_2, ft_X7_limit_4, ft_X7_limit_7, ft_X7_limit_10, ft_X7_limit_12, ft_X7_limit_13, ft_X7_limit_14, ft_X7_limit_17, ft_X7_limit_18, ft_X7_limit_21, ft_X7_limit_23, ft_X7_limit_24, ft_X7_limit_25, ft_X7_limit_26, ft_X7_limit_29, ft_X7_limit_31, ft_X7_limit_32, ft_X7_limit_33, ft_X7_limit_34, fl_71_10, ar_38 jmr78, aw_38 jmr78, e78]
    exact hq C2 _ nt (Mo.rf.hr (Or.inl rfl)) hrow_s
  · refine ⟨Nat.le_of_ble_eq_true rfl, ?_⟩
    simp -implicitDefEqProofs only [jr_0, jr_1, jr_2, j_iconst, j_lconst, j_iload0, j_aload0, j_istore0, j_astore0, j_iinc0, j_iload1, j_aload1, j_istore1, j_astore1, j_iinc1, j_iload2, j_aload2, j_istore2, j_astore2, j_iinc2, j_iload3, j_aload3, j_istore3, j_astore3, j_iinc3, j_iload4, j_aload4, j_istore4, j_astore4, j_iinc4, j_iload5, j_aload5, j_istore5, j_astore5, j_iinc5, j_iload6, j_aload6, j_istore6, j_astore6, j_iinc6, j_iload7, j_aload7, j_istore7, j_astore7, j_iinc7, j_iload8, j_aload8, j_istore8, j_astore8, j_iinc8, j_iadd, j_isub, j_imul, j_iand, j_ior, j_ixor, j_ishl, j_ishr, j_iushr, j_idiv, j_irem, j_ineg, j_ladd, j_lmul, j_land, j_lor, j_lcmp, j_lushr, j_lshl, j_i2l, j_l2i, j_dupI, j_dupR, j_popI, j_dup2, j_ifeq, j_iceq, j_ifne, j_icne, j_iflt, j_iclt, j_ifge, j_icge, j_ifgt, j_icgt, j_ifle, j_icle, j_goto, j_tsw, j_sw0, j_sw1, j_ireturn, j_zreturn, j_lreturn, j_return, j_getfield, j_putI, j_putJ, j_putR, j_iaload, j_baload, j_iastore, j_bastore, j_aaload, j_q, j_aastore, j_acopy, j_mmin, j_mmax, j_mabs, j_objinit, j_new, j_newI, j_newQ, j_sld, j_slen, j_callV0, j_callI0, j_callS0, j_callV1, j_callI1, j_callS1, j_callV2, j_callI2, j_callS2, j_callV3, j_callS3, j_callV4, j_callS4, j_callV5, j_callS5, j_pushS, j_pushN, j_sh0, j_sh1, j_sh2, j_sh3, j_sh4, Int32.reduceAdd, Int32.reduceMul, Int32.reduceSub, Int32.reduceLT, Int32.reduceLE, eq_self, i32_10, i32_01, ne_eq, hrow_s, hrow_n, ne10, ne100, ne1000, ne7, ne4, ne14, ne9973, or_true, true_or, or_false, false_or, not_true_eq_false, not_false_eq_true, false_implies, implies_true, and_true, forall_const, true_implies, jargs_n, jargs_r, jargs_i, List.cons_append, List.nil_append, true_and, Nat.reduceEqDiff, reduceIte, ft_X7_limit_0, ft_X7_limit_1, ft_X7_limit_2, ft_X7_limit_4, ft_X7_limit_7, ft_X7_limit_10, ft_X7_limit_12, ft_X7_limit_13, ft_X7_limit_14, ft_X7_limit_17, ft_X7_limit_18, ft_X7_limit_21, ft_X7_limit_23, ft_X7_limit_24, ft_X7_limit_25, ft_X7_limit_26, ft_X7_limit_29, ft_X7_limit_31, ft_X7_limit_32, ft_X7_limit_33, ft_X7_limit_34, s_X7_in, zb_f (show ¬ (0 ≤ x ∧ x ≤ 99) from fun q => g ⟨Int32.not_lt.mpr q.1, q.2⟩)]
    exact hq
