/-! worth, share -/
noncomputable def worF (C : Nat → Nat → Int32) (fed : Int32) : Int32 := metersF (goF C 0 fed (-1) 20 (C 9))
def S_X6_worth : jSp := fun _ vs mem Q => ∃ C C1 z P, ∃ fed : Int32, vs = [.ref 0, .int fed] ∧ mem = memS 94 C1 z ∧ RC C P ∧ Hv C C1 ∧ ∀ C', Hv C C' → Q (some (.int (worF C fed))) (memS 94 C' z)
def F_X6_worth_0 : Nat → jT := fun pc => (bif Nat.blt pc 8 then (bif Nat.blt pc 4 then (bif Nat.blt pc 1 then (bif Nat.beq pc 0 then J_aload 0 1 else jbad) else (bif Nat.beq pc 1 then J_getfield 6 4 4 else jbad)) else (bif Nat.blt pc 5 then (bif Nat.beq pc 4 then J_aload 0 5 else jbad) else (bif Nat.beq pc 5 then J_getfield 6 3 8 else jbad))) else (bif Nat.blt pc 12 then (bif Nat.blt pc 11 then (bif Nat.beq pc 8 then J_callV 4 S_X4_take 1 11 else jbad) else (bif Nat.beq pc 11 then J_aload 0 12 else jbad)) else (bif Nat.blt pc 15 then (bif Nat.beq pc 12 then J_getfield 6 2 15 else jbad) else (bif Nat.blt pc 16 then (bif Nat.beq pc 15 then J_aload 0 16 else jbad) else (bif Nat.beq pc 16 then J_getfield 6 4 19 else jbad)))))
theorem ftl_X6_worth_0 : F_X6_worth_0 0 = J_aload 0 1 := rfl
theorem ftl_X6_worth_1 : F_X6_worth_0 1 = J_getfield 6 4 4 := rfl
theorem ftl_X6_worth_4 : F_X6_worth_0 4 = J_aload 0 5 := rfl
theorem ftl_X6_worth_5 : F_X6_worth_0 5 = J_getfield 6 3 8 := rfl
theorem ftl_X6_worth_8 : F_X6_worth_0 8 = J_callV 4 S_X4_take 1 11 := rfl
theorem ftl_X6_worth_11 : F_X6_worth_0 11 = J_aload 0 12 := rfl
theorem ftl_X6_worth_12 : F_X6_worth_0 12 = J_getfield 6 2 15 := rfl
theorem ftl_X6_worth_15 : F_X6_worth_0 15 = J_aload 0 16 := rfl
theorem ftl_X6_worth_16 : F_X6_worth_0 16 = J_getfield 6 4 19 := rfl
theorem F_X6_worth_0_ok : jOK Y_X6_worth none (F_X6_worth_0) := (jOK_node (jOK_node (jOK_node (jOK_leaf (sn_aload_n dX6_worth_0 rfl rfl)) (jOK_leaf (sn_getfield dX6_worth_1 rfl rfl (by decide) tw_170 jin6))) (jOK_node (jOK_leaf (sn_aload_n dX6_worth_4 rfl rfl)) (jOK_leaf (sn_getfield dX6_worth_5 rfl rfl (by decide) tw_169 jin6)))) (jOK_node (jOK_node (jOK_leaf (sn_callV (Y' := Y_X4_take) ok_X4_take dX6_worth_8 rfl rfl rfl tw_331 tw_332 tw_333 tw_5 jc_X4_take rfl ⟨by decide, by decide, rfl⟩ ⟨by decide, by decide⟩)) (jOK_leaf (sn_aload_n dX6_worth_11 rfl rfl))) (jOK_node (jOK_leaf (sn_getfield dX6_worth_12 rfl rfl (by decide) tw_168 jin6)) (jOK_node (jOK_leaf (sn_aload_n dX6_worth_15 rfl rfl)) (jOK_leaf (sn_getfield dX6_worth_16 rfl rfl (by decide) tw_170 jin6))))))
def F_X6_worth_19 : Nat → jT := fun pc => (bif Nat.blt pc 24 then (bif Nat.blt pc 22 then (bif Nat.blt pc 21 then (bif Nat.beq pc 19 then J_iconst 20 21 else jbad) else (bif Nat.beq pc 21 then J_iconst 0 22 else jbad)) else (bif Nat.blt pc 23 then (bif Nat.beq pc 22 then J_iload 1 23 else jbad) else (bif Nat.beq pc 23 then J_iconst (-1) 24 else jbad))) else (bif Nat.blt pc 28 then (bif Nat.blt pc 27 then (bif Nat.beq pc 24 then J_callV 0 S_X0_pass 5 27 else jbad) else (bif Nat.beq pc 27 then J_aload 0 28 else jbad)) else (bif Nat.blt pc 31 then (bif Nat.beq pc 28 then J_getfield 6 4 31 else jbad) else (bif Nat.blt pc 34 then (bif Nat.beq pc 31 then J_callV 4 S_X4_meters 0 34 else jbad) else (bif Nat.beq pc 34 then J_ireturn 0 0 else jbad)))))
theorem ftl_X6_worth_19 : F_X6_worth_19 19 = J_iconst 20 21 := rfl
theorem ftl_X6_worth_21 : F_X6_worth_19 21 = J_iconst 0 22 := rfl
theorem ftl_X6_worth_22 : F_X6_worth_19 22 = J_iload 1 23 := rfl
theorem ftl_X6_worth_23 : F_X6_worth_19 23 = J_iconst (-1) 24 := rfl
theorem ftl_X6_worth_24 : F_X6_worth_19 24 = J_callV 0 S_X0_pass 5 27 := rfl
theorem ftl_X6_worth_27 : F_X6_worth_19 27 = J_aload 0 28 := rfl
theorem ftl_X6_worth_28 : F_X6_worth_19 28 = J_getfield 6 4 31 := rfl
theorem ftl_X6_worth_31 : F_X6_worth_19 31 = J_callV 4 S_X4_meters 0 34 := rfl
theorem ftl_X6_worth_34 : F_X6_worth_19 34 = J_ireturn 0 0 := rfl
theorem F_X6_worth_19_ok : jOK Y_X6_worth none (F_X6_worth_19) := (jOK_node (jOK_node (jOK_node (jOK_leaf (sn_bipush dX6_worth_19 rfl rfl)) (jOK_leaf (sn_iconst dX6_worth_21 rfl rfl))) (jOK_node (jOK_leaf (sn_iload_n dX6_worth_22 rfl rfl)) (jOK_leaf (sn_iconst dX6_worth_23 rfl rfl)))) (jOK_node (jOK_node (jOK_leaf (sn_callV (Y' := Y_X0_pass) ok_X0_pass dX6_worth_24 rfl rfl rfl tw_483 tw_343 tw_344 tw_4 jc_X0_pass rfl ⟨by decide, by decide, rfl⟩ ⟨by decide, by decide⟩)) (jOK_leaf (sn_aload_n dX6_worth_27 rfl rfl))) (jOK_node (jOK_leaf (sn_getfield dX6_worth_28 rfl rfl (by decide) tw_170 jin6)) (jOK_node (jOK_leaf (sn_callV (Y' := Y_X4_meters) ok_X4_meters dX6_worth_31 rfl rfl rfl tw_270 tw_271 tw_272 tw_5 jc_X4_meters rfl ⟨by decide, by decide, rfl⟩ ⟨by decide, by decide⟩)) (jOK_leaf (sn_ireturn dX6_worth_34 rfl rfl))))))
def F_X6_worth_0_34 : Nat → jT := fun pc => bif Nat.blt pc 19 then F_X6_worth_0 pc else F_X6_worth_19 pc
theorem F_X6_worth_0_34_l {pc : Nat} (h : Nat.blt pc 19 = true) : F_X6_worth_0_34 pc = F_X6_worth_0 pc := by unfold F_X6_worth_0_34; rw [h]; rfl
theorem F_X6_worth_0_34_r {pc : Nat} (h : Nat.blt pc 19 = false) : F_X6_worth_0_34 pc = F_X6_worth_19 pc := by unfold F_X6_worth_0_34; rw [h]; rfl
theorem F_X6_worth_0_34_ok : jOK Y_X6_worth none (F_X6_worth_0_34) := jOK_node (F_X6_worth_0_ok) (F_X6_worth_19_ok)
def F_X6_worth : Nat → jT := F_X6_worth_0_34
theorem OK_X6_worth : jOK Y_X6_worth none (F_X6_worth) := F_X6_worth_0_34_ok
theorem ft_X6_worth_0 : F_X6_worth 0 = J_aload 0 1 := (F_X6_worth_0_34_l rfl).trans (ftl_X6_worth_0)
theorem ft_X6_worth_1 : F_X6_worth 1 = J_getfield 6 4 4 := (F_X6_worth_0_34_l rfl).trans (ftl_X6_worth_1)
theorem ft_X6_worth_4 : F_X6_worth 4 = J_aload 0 5 := (F_X6_worth_0_34_l rfl).trans (ftl_X6_worth_4)
theorem ft_X6_worth_5 : F_X6_worth 5 = J_getfield 6 3 8 := (F_X6_worth_0_34_l rfl).trans (ftl_X6_worth_5)
theorem ft_X6_worth_8 : F_X6_worth 8 = J_callV 4 S_X4_take 1 11 := (F_X6_worth_0_34_l rfl).trans (ftl_X6_worth_8)
theorem ft_X6_worth_11 : F_X6_worth 11 = J_aload 0 12 := (F_X6_worth_0_34_l rfl).trans (ftl_X6_worth_11)
theorem ft_X6_worth_12 : F_X6_worth 12 = J_getfield 6 2 15 := (F_X6_worth_0_34_l rfl).trans (ftl_X6_worth_12)
theorem ft_X6_worth_15 : F_X6_worth 15 = J_aload 0 16 := (F_X6_worth_0_34_l rfl).trans (ftl_X6_worth_15)
theorem ft_X6_worth_16 : F_X6_worth 16 = J_getfield 6 4 19 := (F_X6_worth_0_34_l rfl).trans (ftl_X6_worth_16)
theorem ft_X6_worth_19 : F_X6_worth 19 = J_iconst 20 21 := (F_X6_worth_0_34_r rfl).trans (ftl_X6_worth_19)
theorem ft_X6_worth_21 : F_X6_worth 21 = J_iconst 0 22 := (F_X6_worth_0_34_r rfl).trans (ftl_X6_worth_21)
theorem ft_X6_worth_22 : F_X6_worth 22 = J_iload 1 23 := (F_X6_worth_0_34_r rfl).trans (ftl_X6_worth_22)
theorem ft_X6_worth_23 : F_X6_worth 23 = J_iconst (-1) 24 := (F_X6_worth_0_34_r rfl).trans (ftl_X6_worth_23)
theorem ft_X6_worth_24 : F_X6_worth 24 = J_callV 0 S_X0_pass 5 27 := (F_X6_worth_0_34_r rfl).trans (ftl_X6_worth_24)
theorem ft_X6_worth_27 : F_X6_worth 27 = J_aload 0 28 := (F_X6_worth_0_34_r rfl).trans (ftl_X6_worth_27)
theorem ft_X6_worth_28 : F_X6_worth 28 = J_getfield 6 4 31 := (F_X6_worth_0_34_r rfl).trans (ftl_X6_worth_28)
theorem ft_X6_worth_31 : F_X6_worth 31 = J_callV 4 S_X4_meters 0 34 := (F_X6_worth_0_34_r rfl).trans (ftl_X6_worth_31)
theorem ft_X6_worth_34 : F_X6_worth 34 = J_ireturn 0 0 := (F_X6_worth_0_34_r rfl).trans (ftl_X6_worth_34)
theorem ok_X6_worth : jMeets Y_X6_worth S_X6_worth := by
  intro nb vs mem Q h
  obtain ⟨C, C1, z, P, fed, rfl, rfl, r, v, hQ⟩ := h
  refine Ok.run OK_X6_worth [] 60 [] pn6 (Nat.le_of_ble_eq_true rfl) rfl ?_
  simp -implicitDefEqProofs only [jr_0, jr_1, jr_2, j_iconst, j_lconst, j_iload0, j_aload0, j_istore0, j_astore0, j_iinc0, j_iload1, j_aload1, j_istore1, j_astore1, j_iinc1, j_iload2, j_aload2, j_istore2, j_astore2, j_iinc2, j_iload3, j_aload3, j_istore3, j_astore3, j_iinc3, j_iload4, j_aload4, j_istore4, j_astore4, j_iinc4, j_iload5, j_aload5, j_istore5, j_astore5, j_iinc5, j_iload6, j_aload6, j_istore6, j_astore6, j_iinc6, j_iload7, j_aload7, j_istore7, j_astore7, j_iinc7, j_iload8, j_aload8, j_istore8, j_astore8, j_iinc8, j_iadd, j_isub, j_imul, j_iand, j_ior, j_ixor, j_ishl, j_ishr, j_iushr, j_idiv, j_irem, j_ineg, j_ladd, j_lmul, j_land, j_lor, j_lcmp, j_lushr, j_lshl, j_i2l, j_l2i, j_dupI, j_dupR, j_popI, j_dup2, j_ifeq, j_iceq, j_ifne, j_icne, j_iflt, j_iclt, j_ifge, j_icge, j_ifgt, j_icgt, j_ifle, j_icle, j_goto, j_tsw, j_sw0, j_sw1, j_ireturn, j_zreturn, j_lreturn, j_return, j_getfield, j_putI, j_putJ, j_putR, j_iaload, j_baload, j_iastore, j_bastore, j_aaload, j_q, j_aastore, j_acopy, j_mmin, j_mmax, j_mabs, j_objinit, j_new, j_newI, j_newQ, j_sld, j_slen, j_callV0, j_callI0, j_callS0, j_callV1, j_callI1, j_callS1, j_callV2, j_callI2, j_callS2, j_callV3, j_callS3, j_callV4, j_callS4, j_callV5, j_callS5, j_pushS, j_pushN, j_sh0, j_sh1, j_sh2, j_sh3, j_sh4, Int32.reduceAdd, Int32.reduceMul, Int32.reduceSub, Int32.reduceLT, Int32.reduceLE, eq_self, i32_10, i32_01, ne_eq, hrow_s, hrow_n, ne10, ne100, ne1000, ne7, ne4, ne14, ne9973, or_true, true_or, or_false, false_or, not_true_eq_false, not_false_eq_true, false_implies, implies_true, and_true, forall_const, true_implies, jargs_n, jargs_r, jargs_i, List.cons_append, List.nil_append, true_and, Nat.reduceEqDiff, reduceIte, ft_X6_worth_0, ft_X6_worth_1, ft_X6_worth_4, ft_X6_worth_5, ft_X6_worth_8, ft_X6_worth_11, ft_X6_worth_12, ft_X6_worth_15, ft_X6_worth_16, ft_X6_worth_19, ft_X6_worth_21, ft_X6_worth_22, ft_X6_worth_23, ft_X6_worth_24, ft_X6_worth_27, ft_X6_worth_28, ft_X6_worth_31, ft_X6_worth_34, rc_6, fl_0_2, fl_0_3, fl_0_4, jrcv_st js_12, s_takeH r v]
  refine s_passT (n := 20) (by decide) (v.h12 r.c9) r.hP r.h4 fun C2 v2 e2 => ?_
  rw [hrow_s] at e2
  simp -implicitDefEqProofs only [jr_0, jr_1, jr_2, j_iconst, j_lconst, j_iload0, j_aload0, j_istore0, j_astore0, j_iinc0, j_iload1, j_aload1, j_istore1, j_astore1, j_iinc1, j_iload2, j_aload2, j_istore2, j_astore2, j_iinc2, j_iload3, j_aload3, j_istore3, j_astore3, j_iinc3, j_iload4, j_aload4, j_istore4, j_astore4, j_iinc4, j_iload5, j_aload5, j_istore5, j_astore5, j_iinc5, j_iload6, j_aload6, j_istore6, j_astore6, j_iinc6, j_iload7, j_aload7, j_istore7, j_astore7, j_iinc7, j_iload8, j_aload8, j_istore8, j_astore8, j_iinc8, j_iadd, j_isub, j_imul, j_iand, j_ior, j_ixor, j_ishl, j_ishr, j_iushr, j_idiv, j_irem, j_ineg, j_ladd, j_lmul, j_land, j_lor, j_lcmp, j_lushr, j_lshl, j_i2l, j_l2i, j_dupI, j_dupR, j_popI, j_dup2, j_ifeq, j_iceq, j_ifne, j_icne, j_iflt, j_iclt, j_ifge, j_icge, j_ifgt, j_icgt, j_ifle, j_icle, j_goto, j_tsw, j_sw0, j_sw1, j_ireturn, j_zreturn, j_lreturn, j_return, j_getfield, j_putI, j_putJ, j_putR, j_iaload, j_baload, j_iastore, j_bastore, j_aaload, j_q, j_aastore, j_acopy, j_mmin, j_mmax, j_mabs, j_objinit, j_new, j_newI, j_newQ, j_sld, j_slen, j_callV0, j_callI0, j_callS0, j_callV1, j_callI1, j_callS1, j_callV2, j_callI2, j_callS2, j_callV3, j_callS3, j_callV4, j_callS4, j_callV5, j_callS5, j_pushS, j_pushN, j_sh0, j_sh1, j_sh2, j_sh3, j_sh4, Int32.reduceAdd, Int32.reduceMul, Int32.reduceSub, Int32.reduceLT, Int32.reduceLE, eq_self, i32_10, i32_01, ne_eq, hrow_s, hrow_n, ne10, ne100, ne1000, ne7, ne4, ne14, ne9973, or_true, true_or, or_false, false_or, not_true_eq_false, not_false_eq_true, false_implies, implies_true, and_true, forall_const, true_implies, jargs_n, jargs_r, jargs_i, List.cons_append, List.nil_append, true_and, Nat.reduceEqDiff, reduceIte, ft_X6_worth_0, ft_X6_worth_1, ft_X6_worth_4, ft_X6_worth_5, ft_X6_worth_8, ft_X6_worth_11, ft_X6_worth_12, ft_X6_worth_15, ft_X6_worth_16, ft_X6_worth_19, ft_X6_worth_21, ft_X6_worth_22, ft_X6_worth_23, ft_X6_worth_24, ft_X6_worth_27, ft_X6_worth_28, ft_X6_worth_31, ft_X6_worth_34, fl_0_4, jrcv_st js_12, s_X4_meters js_12, e2]
  exact hQ C2 v2
theorem s_X6_worth {nb P : Nat} {C C1 : Nat → Nat → Int32} {z : Nat → Int64} {fed : Int32} {Q : jQ} (r : RC C P) (v : Hv C C1) (hQ : ∀ C', Hv C C' → Q (some (.int (worF C fed))) (memS 94 C' z)) : S_X6_worth nb [.ref 0, .int fed] (memS 94 C1 z) Q := ⟨C, C1, z, P, fed, rfl, rfl, r, v, hQ⟩
theorem shlP : ∀ P, P ≤ 4 → (1 : Int32) <<< (nI P &&& 31) = nI (2 ^ P) := by decide +kernel
def earl (p f : Int32) : Int32 := bcF (f &&& ((1 <<< (p &&& 31)) ^^^ -1))
def ordsF (P : Nat) (p f : Int32) : Int32 := facF (earl p f) * facF (nI P - 1 - earl p f)
noncomputable def shT (C : Nat → Nat → Int32) (P : Nat) (p f : Int32) : Int32 := pick (hasP f p) (ordsF P p f * worF C f) (-ordsF P p f * worF C f)
noncomputable def shS (C : Nat → Nat → Int32) (P : Nat) (p : Int32) : Nat → Int32
  | 0 => 0
  | k + 1 => shS C P p k + shT C P p (nI k)
noncomputable def shareA (C : Nat → Nat → Int32) (P : Nat) (p u : Int32) : Int32 := pick (okPost C p) (lowF (shS C P p (2 ^ P)) (facF (nI P)) u) (-1)
theorem earl_ok : ∀ P, P ≤ 4 → ∀ p, p < P → ∀ f, f < 2 ^ P → (0 ≤ earl (nI p) (nI f) ∧ earl (nI p) (nI f) ≤ 4) ∧ 0 ≤ nI P - 1 - earl (nI p) (nI f) ∧ nI P - 1 - earl (nI p) (nI f) ≤ 4 := by decide +kernel
theorem fac_ok : ∀ P, P ≤ 4 → 0 ≤ nI P ∧ nI P ≤ 4 := by decide +kernel
theorem p2_lt {P : Nat} (h : P ≤ 4) : 2 ^ P ≤ 16 := Nat.pow_le_pow_right (by decide) h
def S_X6_share : jSp := fun _ vs mem Q => ∃ C z P, ∃ p u : Int32, vs = [.ref 0, .int p, .int u] ∧ mem = memS 94 C z ∧ RC C P ∧ ∀ C', Hv C C' → Q (some (.int (shareA C P p u))) (memS 94 C' z)
def F_X6_share_0 : Nat → jT := fun pc => (bif Nat.blt pc 8 then (bif Nat.blt pc 4 then (bif Nat.blt pc 1 then (bif Nat.beq pc 0 then J_aload 0 1 else jbad) else (bif Nat.beq pc 1 then J_getfield 6 1 4 else jbad)) else (bif Nat.blt pc 5 then (bif Nat.beq pc 4 then J_iload 1 5 else jbad) else (bif Nat.beq pc 5 then J_callV 3 S_X3_hasPost 1 8 else jbad))) else (bif Nat.blt pc 12 then (bif Nat.blt pc 11 then (bif Nat.beq pc 8 then J_ifne 13 11 else jbad) else (bif Nat.beq pc 11 then J_iconst (-1) 12 else jbad)) else (bif Nat.blt pc 13 then (bif Nat.beq pc 12 then J_ireturn 0 0 else jbad) else (bif Nat.beq pc 13 then J_aload 0 14 else jbad))))
theorem ftl_X6_share_0 : F_X6_share_0 0 = J_aload 0 1 := rfl
theorem ftl_X6_share_1 : F_X6_share_0 1 = J_getfield 6 1 4 := rfl
theorem ftl_X6_share_4 : F_X6_share_0 4 = J_iload 1 5 := rfl
theorem ftl_X6_share_5 : F_X6_share_0 5 = J_callV 3 S_X3_hasPost 1 8 := rfl
theorem ftl_X6_share_8 : F_X6_share_0 8 = J_ifne 13 11 := rfl
theorem ftl_X6_share_11 : F_X6_share_0 11 = J_iconst (-1) 12 := rfl
theorem ftl_X6_share_12 : F_X6_share_0 12 = J_ireturn 0 0 := rfl
theorem ftl_X6_share_13 : F_X6_share_0 13 = J_aload 0 14 := rfl
theorem F_X6_share_0_ok : jOK Y_X6_share none (F_X6_share_0) := (jOK_node (jOK_node (jOK_node (jOK_leaf (sn_aload_n dX6_share_0 rfl rfl)) (jOK_leaf (sn_getfield dX6_share_1 rfl rfl (by decide) tw_167 jin6))) (jOK_node (jOK_leaf (sn_iload_n dX6_share_4 rfl rfl)) (jOK_leaf (sn_callV (Y' := Y_X3_hasPost) ok_X3_hasPost dX6_share_5 rfl rfl rfl tw_286 tw_287 tw_288 tw_3 jc_X3_hasPost rfl ⟨by decide, by decide, rfl⟩ ⟨by decide, by decide⟩)))) (jOK_node (jOK_node (jOK_leaf (sn_ifne dX6_share_8 rfl rfl)) (jOK_leaf (sn_iconst dX6_share_11 rfl rfl))) (jOK_node (jOK_leaf (sn_ireturn dX6_share_12 rfl rfl)) (jOK_leaf (sn_aload_n dX6_share_13 rfl rfl)))))
def F_X6_share_14 : Nat → jT := fun pc => (bif Nat.blt pc 22 then (bif Nat.blt pc 20 then (bif Nat.blt pc 17 then (bif Nat.beq pc 14 then J_getfield 6 1 17 else jbad) else (bif Nat.beq pc 17 then J_getfield 3 2 20 else jbad)) else (bif Nat.blt pc 21 then (bif Nat.beq pc 20 then J_iconst 1 21 else jbad) else (bif Nat.beq pc 21 then J_isub 22 else jbad))) else (bif Nat.blt pc 24 then (bif Nat.blt pc 23 then (bif Nat.beq pc 22 then J_istore 3 23 else jbad) else (bif Nat.beq pc 23 then J_iconst 0 24 else jbad)) else (bif Nat.blt pc 26 then (bif Nat.beq pc 24 then J_istore 4 26 else jbad) else (bif Nat.blt pc 27 then (bif Nat.beq pc 26 then J_iconst 0 27 else jbad) else (bif Nat.beq pc 27 then J_istore 5 29 else jbad)))))
theorem ftl_X6_share_14 : F_X6_share_14 14 = J_getfield 6 1 17 := rfl
theorem ftl_X6_share_17 : F_X6_share_14 17 = J_getfield 3 2 20 := rfl
theorem ftl_X6_share_20 : F_X6_share_14 20 = J_iconst 1 21 := rfl
theorem ftl_X6_share_21 : F_X6_share_14 21 = J_isub 22 := rfl
theorem ftl_X6_share_22 : F_X6_share_14 22 = J_istore 3 23 := rfl
theorem ftl_X6_share_23 : F_X6_share_14 23 = J_iconst 0 24 := rfl
theorem ftl_X6_share_24 : F_X6_share_14 24 = J_istore 4 26 := rfl
theorem ftl_X6_share_26 : F_X6_share_14 26 = J_iconst 0 27 := rfl
theorem ftl_X6_share_27 : F_X6_share_14 27 = J_istore 5 29 := rfl
theorem F_X6_share_14_ok : jOK Y_X6_share none (F_X6_share_14) := (jOK_node (jOK_node (jOK_node (jOK_leaf (sn_getfield dX6_share_14 rfl rfl (by decide) tw_167 jin6)) (jOK_leaf (sn_getfield dX6_share_17 rfl rfl (by decide) tw_45 jin3))) (jOK_node (jOK_leaf (sn_iconst dX6_share_20 rfl rfl)) (jOK_leaf (sn_isub dX6_share_21 rfl)))) (jOK_node (jOK_node (jOK_leaf (sn_istore_n dX6_share_22 rfl rfl (by decide))) (jOK_leaf (sn_iconst dX6_share_23 rfl rfl))) (jOK_node (jOK_leaf (sn_istore dX6_share_24 rfl (by decide))) (jOK_node (jOK_leaf (sn_iconst dX6_share_26 rfl rfl)) (jOK_leaf (sn_istore dX6_share_27 rfl (by decide)))))))
def F_X6_share_0_27 : Nat → jT := fun pc => bif Nat.blt pc 14 then F_X6_share_0 pc else F_X6_share_14 pc
theorem F_X6_share_0_27_l {pc : Nat} (h : Nat.blt pc 14 = true) : F_X6_share_0_27 pc = F_X6_share_0 pc := by unfold F_X6_share_0_27; rw [h]; rfl
theorem F_X6_share_0_27_r {pc : Nat} (h : Nat.blt pc 14 = false) : F_X6_share_0_27 pc = F_X6_share_14 pc := by unfold F_X6_share_0_27; rw [h]; rfl
theorem F_X6_share_0_27_ok : jOK Y_X6_share none (F_X6_share_0_27) := jOK_node (F_X6_share_0_ok) (F_X6_share_14_ok)
def F_X6_share_29 : Nat → jT := fun pc => (bif Nat.blt pc 36 then (bif Nat.blt pc 32 then (bif Nat.blt pc 31 then (bif Nat.beq pc 29 then J_iload 5 31 else jbad) else (bif Nat.beq pc 31 then J_iconst 1 32 else jbad)) else (bif Nat.blt pc 33 then (bif Nat.beq pc 32 then J_aload 0 33 else jbad) else (bif Nat.beq pc 33 then J_getfield 6 1 36 else jbad))) else (bif Nat.blt pc 40 then (bif Nat.blt pc 39 then (bif Nat.beq pc 36 then J_getfield 3 2 39 else jbad) else (bif Nat.beq pc 39 then J_ishl 40 else jbad)) else (bif Nat.blt pc 43 then (bif Nat.beq pc 40 then J_icge 113 43 else jbad) else (bif Nat.blt pc 45 then (bif Nat.beq pc 43 then J_iload 5 45 else jbad) else (bif Nat.beq pc 45 then J_iconst 1 46 else jbad)))))
theorem ftl_X6_share_29 : F_X6_share_29 29 = J_iload 5 31 := rfl
theorem ftl_X6_share_31 : F_X6_share_29 31 = J_iconst 1 32 := rfl
theorem ftl_X6_share_32 : F_X6_share_29 32 = J_aload 0 33 := rfl
theorem ftl_X6_share_33 : F_X6_share_29 33 = J_getfield 6 1 36 := rfl
theorem ftl_X6_share_36 : F_X6_share_29 36 = J_getfield 3 2 39 := rfl
theorem ftl_X6_share_39 : F_X6_share_29 39 = J_ishl 40 := rfl
theorem ftl_X6_share_40 : F_X6_share_29 40 = J_icge 113 43 := rfl
theorem ftl_X6_share_43 : F_X6_share_29 43 = J_iload 5 45 := rfl
theorem ftl_X6_share_45 : F_X6_share_29 45 = J_iconst 1 46 := rfl
theorem F_X6_share_29_ok : jOK Y_X6_share none (F_X6_share_29) := (jOK_node (jOK_node (jOK_node (jOK_leaf (sn_iload dX6_share_29 rfl)) (jOK_leaf (sn_iconst dX6_share_31 rfl rfl))) (jOK_node (jOK_leaf (sn_aload_n dX6_share_32 rfl rfl)) (jOK_leaf (sn_getfield dX6_share_33 rfl rfl (by decide) tw_167 jin6)))) (jOK_node (jOK_node (jOK_leaf (sn_getfield dX6_share_36 rfl rfl (by decide) tw_45 jin3)) (jOK_leaf (sn_ishl dX6_share_39 rfl))) (jOK_node (jOK_leaf (sn_icge dX6_share_40 rfl rfl)) (jOK_node (jOK_leaf (sn_iload dX6_share_43 rfl)) (jOK_leaf (sn_iconst dX6_share_45 rfl rfl))))))
def F_X6_share_46 : Nat → jT := fun pc => (bif Nat.blt pc 50 then (bif Nat.blt pc 48 then (bif Nat.blt pc 47 then (bif Nat.beq pc 46 then J_iload 1 47 else jbad) else (bif Nat.beq pc 47 then J_ishl 48 else jbad)) else (bif Nat.blt pc 49 then (bif Nat.beq pc 48 then J_iconst (-1) 49 else jbad) else (bif Nat.beq pc 49 then J_ixor 50 else jbad))) else (bif Nat.blt pc 54 then (bif Nat.blt pc 51 then (bif Nat.beq pc 50 then J_iand 51 else jbad) else (bif Nat.beq pc 51 then J_callS S_J6_bitCount_0f7a4 1 54 else jbad)) else (bif Nat.blt pc 56 then (bif Nat.beq pc 54 then J_istore 6 56 else jbad) else (bif Nat.blt pc 58 then (bif Nat.beq pc 56 then J_iload 6 58 else jbad) else (bif Nat.beq pc 58 then J_callS S_X6_factorial 1 61 else jbad)))))
theorem ftl_X6_share_46 : F_X6_share_46 46 = J_iload 1 47 := rfl
theorem ftl_X6_share_47 : F_X6_share_46 47 = J_ishl 48 := rfl
theorem ftl_X6_share_48 : F_X6_share_46 48 = J_iconst (-1) 49 := rfl
theorem ftl_X6_share_49 : F_X6_share_46 49 = J_ixor 50 := rfl
theorem ftl_X6_share_50 : F_X6_share_46 50 = J_iand 51 := rfl
theorem ftl_X6_share_51 : F_X6_share_46 51 = J_callS S_J6_bitCount_0f7a4 1 54 := rfl
theorem ftl_X6_share_54 : F_X6_share_46 54 = J_istore 6 56 := rfl
theorem ftl_X6_share_56 : F_X6_share_46 56 = J_iload 6 58 := rfl
theorem ftl_X6_share_58 : F_X6_share_46 58 = J_callS S_X6_factorial 1 61 := rfl
theorem F_X6_share_46_ok : jOK Y_X6_share none (F_X6_share_46) := (jOK_node (jOK_node (jOK_node (jOK_leaf (sn_iload_n dX6_share_46 rfl rfl)) (jOK_leaf (sn_ishl dX6_share_47 rfl))) (jOK_node (jOK_leaf (sn_iconst dX6_share_48 rfl rfl)) (jOK_leaf (sn_ixor dX6_share_49 rfl)))) (jOK_node (jOK_node (jOK_leaf (sn_iand dX6_share_50 rfl)) (jOK_leaf (sn_callS (Y' := Y_J6_bitCount_0f7a4) ok_J6_bitCount_0f7a4 dX6_share_51 rfl rfl tw_560 tw_458 tw_11 jc_J6_bitCount_0f7a4 ⟨by decide, by decide, rfl⟩ ⟨by decide, by decide⟩))) (jOK_node (jOK_leaf (sn_istore dX6_share_54 rfl (by decide))) (jOK_node (jOK_leaf (sn_iload dX6_share_56 rfl)) (jOK_leaf (sn_callS (Y' := Y_X6_factorial) ok_X6_factorial dX6_share_58 rfl rfl tw_561 tw_562 tw_1 jc_X6_factorial ⟨by decide, by decide, rfl⟩ ⟨by decide, by decide⟩))))))
def F_X6_share_29_58 : Nat → jT := fun pc => bif Nat.blt pc 46 then F_X6_share_29 pc else F_X6_share_46 pc
theorem F_X6_share_29_58_l {pc : Nat} (h : Nat.blt pc 46 = true) : F_X6_share_29_58 pc = F_X6_share_29 pc := by unfold F_X6_share_29_58; rw [h]; rfl
theorem F_X6_share_29_58_r {pc : Nat} (h : Nat.blt pc 46 = false) : F_X6_share_29_58 pc = F_X6_share_46 pc := by unfold F_X6_share_29_58; rw [h]; rfl
theorem F_X6_share_29_58_ok : jOK Y_X6_share none (F_X6_share_29_58) := jOK_node (F_X6_share_29_ok) (F_X6_share_46_ok)
def F_X6_share_0_58 : Nat → jT := fun pc => bif Nat.blt pc 29 then F_X6_share_0_27 pc else F_X6_share_29_58 pc
theorem F_X6_share_0_58_l {pc : Nat} (h : Nat.blt pc 29 = true) : F_X6_share_0_58 pc = F_X6_share_0_27 pc := by unfold F_X6_share_0_58; rw [h]; rfl
theorem F_X6_share_0_58_r {pc : Nat} (h : Nat.blt pc 29 = false) : F_X6_share_0_58 pc = F_X6_share_29_58 pc := by unfold F_X6_share_0_58; rw [h]; rfl
theorem F_X6_share_0_58_ok : jOK Y_X6_share none (F_X6_share_0_58) := jOK_node (F_X6_share_0_27_ok) (F_X6_share_29_58_ok)
def F_X6_share_61 : Nat → jT := fun pc => (bif Nat.blt pc 68 then (bif Nat.blt pc 64 then (bif Nat.blt pc 62 then (bif Nat.beq pc 61 then J_iload 3 62 else jbad) else (bif Nat.beq pc 62 then J_iload 6 64 else jbad)) else (bif Nat.blt pc 65 then (bif Nat.beq pc 64 then J_isub 65 else jbad) else (bif Nat.beq pc 65 then J_callS S_X6_factorial 1 68 else jbad))) else (bif Nat.blt pc 71 then (bif Nat.blt pc 69 then (bif Nat.beq pc 68 then J_imul 69 else jbad) else (bif Nat.beq pc 69 then J_istore 7 71 else jbad)) else (bif Nat.blt pc 73 then (bif Nat.beq pc 71 then J_iload 4 73 else jbad) else (bif Nat.beq pc 73 then J_iload 5 75 else jbad))))
theorem ftl_X6_share_61 : F_X6_share_61 61 = J_iload 3 62 := rfl
theorem ftl_X6_share_62 : F_X6_share_61 62 = J_iload 6 64 := rfl
theorem ftl_X6_share_64 : F_X6_share_61 64 = J_isub 65 := rfl
theorem ftl_X6_share_65 : F_X6_share_61 65 = J_callS S_X6_factorial 1 68 := rfl
theorem ftl_X6_share_68 : F_X6_share_61 68 = J_imul 69 := rfl
theorem ftl_X6_share_69 : F_X6_share_61 69 = J_istore 7 71 := rfl
theorem ftl_X6_share_71 : F_X6_share_61 71 = J_iload 4 73 := rfl
theorem ftl_X6_share_73 : F_X6_share_61 73 = J_iload 5 75 := rfl
theorem F_X6_share_61_ok : jOK Y_X6_share none (F_X6_share_61) := (jOK_node (jOK_node (jOK_node (jOK_leaf (sn_iload_n dX6_share_61 rfl rfl)) (jOK_leaf (sn_iload dX6_share_62 rfl))) (jOK_node (jOK_leaf (sn_isub dX6_share_64 rfl)) (jOK_leaf (sn_callS (Y' := Y_X6_factorial) ok_X6_factorial dX6_share_65 rfl rfl tw_561 tw_562 tw_1 jc_X6_factorial ⟨by decide, by decide, rfl⟩ ⟨by decide, by decide⟩)))) (jOK_node (jOK_node (jOK_leaf (sn_imul dX6_share_68 rfl)) (jOK_leaf (sn_istore dX6_share_69 rfl (by decide)))) (jOK_node (jOK_leaf (sn_iload dX6_share_71 rfl)) (jOK_leaf (sn_iload dX6_share_73 rfl)))))
def F_X6_share_75 : Nat → jT := fun pc => (bif Nat.blt pc 84 then (bif Nat.blt pc 79 then (bif Nat.blt pc 76 then (bif Nat.beq pc 75 then J_iload 1 76 else jbad) else (bif Nat.beq pc 76 then J_callS S_X6_has 2 79 else jbad)) else (bif Nat.blt pc 82 then (bif Nat.beq pc 79 then J_ifeq 94 82 else jbad) else (bif Nat.beq pc 82 then J_iload 7 84 else jbad))) else (bif Nat.blt pc 87 then (bif Nat.blt pc 85 then (bif Nat.beq pc 84 then J_aload 0 85 else jbad) else (bif Nat.beq pc 85 then J_iload 5 87 else jbad)) else (bif Nat.blt pc 90 then (bif Nat.beq pc 87 then J_callV 6 S_X6_worth 1 90 else jbad) else (bif Nat.blt pc 91 then (bif Nat.beq pc 90 then J_imul 91 else jbad) else (bif Nat.beq pc 91 then J_goto 104 else jbad)))))
theorem ftl_X6_share_75 : F_X6_share_75 75 = J_iload 1 76 := rfl
theorem ftl_X6_share_76 : F_X6_share_75 76 = J_callS S_X6_has 2 79 := rfl
theorem ftl_X6_share_79 : F_X6_share_75 79 = J_ifeq 94 82 := rfl
theorem ftl_X6_share_82 : F_X6_share_75 82 = J_iload 7 84 := rfl
theorem ftl_X6_share_84 : F_X6_share_75 84 = J_aload 0 85 := rfl
theorem ftl_X6_share_85 : F_X6_share_75 85 = J_iload 5 87 := rfl
theorem ftl_X6_share_87 : F_X6_share_75 87 = J_callV 6 S_X6_worth 1 90 := rfl
theorem ftl_X6_share_90 : F_X6_share_75 90 = J_imul 91 := rfl
theorem ftl_X6_share_91 : F_X6_share_75 91 = J_goto 104 := rfl
theorem F_X6_share_75_ok : jOK Y_X6_share none (F_X6_share_75) := (jOK_node (jOK_node (jOK_node (jOK_leaf (sn_iload_n dX6_share_75 rfl rfl)) (jOK_leaf (sn_callS (Y' := Y_X6_has) ok_X6_has dX6_share_76 rfl rfl tw_564 tw_308 tw_1 jc_X6_has ⟨by decide, by decide, rfl⟩ ⟨by decide, by decide⟩))) (jOK_node (jOK_leaf (sn_ifeq dX6_share_79 rfl rfl)) (jOK_leaf (sn_iload dX6_share_82 rfl)))) (jOK_node (jOK_node (jOK_leaf (sn_aload_n dX6_share_84 rfl rfl)) (jOK_leaf (sn_iload dX6_share_85 rfl))) (jOK_node (jOK_leaf (sn_callV (Y' := Y_X6_worth) ok_X6_worth dX6_share_87 rfl rfl rfl tw_565 tw_567 tp_23 tw_1 jc_X6_worth rfl ⟨by decide, by decide, rfl⟩ ⟨by decide, by decide⟩)) (jOK_node (jOK_leaf (sn_imul dX6_share_90 rfl)) (jOK_leaf (sn_goto dX6_share_91 rfl))))))
def F_X6_share_61_91 : Nat → jT := fun pc => bif Nat.blt pc 75 then F_X6_share_61 pc else F_X6_share_75 pc
theorem F_X6_share_61_91_l {pc : Nat} (h : Nat.blt pc 75 = true) : F_X6_share_61_91 pc = F_X6_share_61 pc := by unfold F_X6_share_61_91; rw [h]; rfl
theorem F_X6_share_61_91_r {pc : Nat} (h : Nat.blt pc 75 = false) : F_X6_share_61_91 pc = F_X6_share_75 pc := by unfold F_X6_share_61_91; rw [h]; rfl
theorem F_X6_share_61_91_ok : jOK Y_X6_share none (F_X6_share_61_91) := jOK_node (F_X6_share_61_ok) (F_X6_share_75_ok)
def F_X6_share_94 : Nat → jT := fun pc => (bif Nat.blt pc 100 then (bif Nat.blt pc 97 then (bif Nat.blt pc 96 then (bif Nat.beq pc 94 then J_iload 7 96 else jbad) else (bif Nat.beq pc 96 then J_ineg 97 else jbad)) else (bif Nat.blt pc 98 then (bif Nat.beq pc 97 then J_aload 0 98 else jbad) else (bif Nat.beq pc 98 then J_iload 5 100 else jbad))) else (bif Nat.blt pc 104 then (bif Nat.blt pc 103 then (bif Nat.beq pc 100 then J_callV 6 S_X6_worth 1 103 else jbad) else (bif Nat.beq pc 103 then J_imul 104 else jbad)) else (bif Nat.blt pc 105 then (bif Nat.beq pc 104 then J_iadd 105 else jbad) else (bif Nat.blt pc 107 then (bif Nat.beq pc 105 then J_istore 4 107 else jbad) else (bif Nat.beq pc 107 then J_iinc 5 1 110 else jbad)))))
theorem ftl_X6_share_94 : F_X6_share_94 94 = J_iload 7 96 := rfl
theorem ftl_X6_share_96 : F_X6_share_94 96 = J_ineg 97 := rfl
theorem ftl_X6_share_97 : F_X6_share_94 97 = J_aload 0 98 := rfl
theorem ftl_X6_share_98 : F_X6_share_94 98 = J_iload 5 100 := rfl
theorem ftl_X6_share_100 : F_X6_share_94 100 = J_callV 6 S_X6_worth 1 103 := rfl
theorem ftl_X6_share_103 : F_X6_share_94 103 = J_imul 104 := rfl
theorem ftl_X6_share_104 : F_X6_share_94 104 = J_iadd 105 := rfl
theorem ftl_X6_share_105 : F_X6_share_94 105 = J_istore 4 107 := rfl
theorem ftl_X6_share_107 : F_X6_share_94 107 = J_iinc 5 1 110 := rfl
theorem F_X6_share_94_ok : jOK Y_X6_share none (F_X6_share_94) := (jOK_node (jOK_node (jOK_node (jOK_leaf (sn_iload dX6_share_94 rfl)) (jOK_leaf (sn_ineg dX6_share_96 rfl))) (jOK_node (jOK_leaf (sn_aload_n dX6_share_97 rfl rfl)) (jOK_leaf (sn_iload dX6_share_98 rfl)))) (jOK_node (jOK_node (jOK_leaf (sn_callV (Y' := Y_X6_worth) ok_X6_worth dX6_share_100 rfl rfl rfl tw_565 tw_567 tp_23 tw_1 jc_X6_worth rfl ⟨by decide, by decide, rfl⟩ ⟨by decide, by decide⟩)) (jOK_leaf (sn_imul dX6_share_103 rfl))) (jOK_node (jOK_leaf (sn_iadd dX6_share_104 rfl)) (jOK_node (jOK_leaf (sn_istore dX6_share_105 rfl (by decide))) (jOK_leaf (sn_iinc dX6_share_107 rfl rfl (by decide)))))))
def F_X6_share_110 : Nat → jT := fun pc => (bif Nat.blt pc 119 then (bif Nat.blt pc 115 then (bif Nat.blt pc 113 then (bif Nat.beq pc 110 then J_goto 29 else jbad) else (bif Nat.beq pc 113 then J_iload 4 115 else jbad)) else (bif Nat.blt pc 116 then (bif Nat.beq pc 115 then J_aload 0 116 else jbad) else (bif Nat.beq pc 116 then J_getfield 6 1 119 else jbad))) else (bif Nat.blt pc 125 then (bif Nat.blt pc 122 then (bif Nat.beq pc 119 then J_getfield 3 2 122 else jbad) else (bif Nat.beq pc 122 then J_callS S_X6_factorial 1 125 else jbad)) else (bif Nat.blt pc 126 then (bif Nat.beq pc 125 then J_iload 2 126 else jbad) else (bif Nat.blt pc 129 then (bif Nat.beq pc 126 then J_callS S_X6_lowest 3 129 else jbad) else (bif Nat.beq pc 129 then J_ireturn 0 0 else jbad)))))
theorem ftl_X6_share_110 : F_X6_share_110 110 = J_goto 29 := rfl
theorem ftl_X6_share_113 : F_X6_share_110 113 = J_iload 4 115 := rfl
theorem ftl_X6_share_115 : F_X6_share_110 115 = J_aload 0 116 := rfl
theorem ftl_X6_share_116 : F_X6_share_110 116 = J_getfield 6 1 119 := rfl
theorem ftl_X6_share_119 : F_X6_share_110 119 = J_getfield 3 2 122 := rfl
theorem ftl_X6_share_122 : F_X6_share_110 122 = J_callS S_X6_factorial 1 125 := rfl
theorem ftl_X6_share_125 : F_X6_share_110 125 = J_iload 2 126 := rfl
theorem ftl_X6_share_126 : F_X6_share_110 126 = J_callS S_X6_lowest 3 129 := rfl
theorem ftl_X6_share_129 : F_X6_share_110 129 = J_ireturn 0 0 := rfl
theorem F_X6_share_110_ok : jOK Y_X6_share none (F_X6_share_110) := (jOK_node (jOK_node (jOK_node (jOK_leaf (sn_goto dX6_share_110 rfl)) (jOK_leaf (sn_iload dX6_share_113 rfl))) (jOK_node (jOK_leaf (sn_aload_n dX6_share_115 rfl rfl)) (jOK_leaf (sn_getfield dX6_share_116 rfl rfl (by decide) tw_167 jin6)))) (jOK_node (jOK_node (jOK_leaf (sn_getfield dX6_share_119 rfl rfl (by decide) tw_45 jin3)) (jOK_leaf (sn_callS (Y' := Y_X6_factorial) ok_X6_factorial dX6_share_122 rfl rfl tw_561 tw_562 tw_1 jc_X6_factorial ⟨by decide, by decide, rfl⟩ ⟨by decide, by decide⟩))) (jOK_node (jOK_leaf (sn_iload_n dX6_share_125 rfl rfl)) (jOK_node (jOK_leaf (sn_callS (Y' := Y_X6_lowest) ok_X6_lowest dX6_share_126 rfl rfl tw_569 tw_570 tw_1 jc_X6_lowest ⟨by decide, by decide, rfl⟩ ⟨by decide, by decide⟩)) (jOK_leaf (sn_ireturn dX6_share_129 rfl rfl))))))
def F_X6_share_94_129 : Nat → jT := fun pc => bif Nat.blt pc 110 then F_X6_share_94 pc else F_X6_share_110 pc
theorem F_X6_share_94_129_l {pc : Nat} (h : Nat.blt pc 110 = true) : F_X6_share_94_129 pc = F_X6_share_94 pc := by unfold F_X6_share_94_129; rw [h]; rfl
theorem F_X6_share_94_129_r {pc : Nat} (h : Nat.blt pc 110 = false) : F_X6_share_94_129 pc = F_X6_share_110 pc := by unfold F_X6_share_94_129; rw [h]; rfl
theorem F_X6_share_94_129_ok : jOK Y_X6_share none (F_X6_share_94_129) := jOK_node (F_X6_share_94_ok) (F_X6_share_110_ok)
def F_X6_share_61_129 : Nat → jT := fun pc => bif Nat.blt pc 94 then F_X6_share_61_91 pc else F_X6_share_94_129 pc
theorem F_X6_share_61_129_l {pc : Nat} (h : Nat.blt pc 94 = true) : F_X6_share_61_129 pc = F_X6_share_61_91 pc := by unfold F_X6_share_61_129; rw [h]; rfl
theorem F_X6_share_61_129_r {pc : Nat} (h : Nat.blt pc 94 = false) : F_X6_share_61_129 pc = F_X6_share_94_129 pc := by unfold F_X6_share_61_129; rw [h]; rfl
theorem F_X6_share_61_129_ok : jOK Y_X6_share none (F_X6_share_61_129) := jOK_node (F_X6_share_61_91_ok) (F_X6_share_94_129_ok)
def F_X6_share_0_129 : Nat → jT := fun pc => bif Nat.blt pc 61 then F_X6_share_0_58 pc else F_X6_share_61_129 pc
theorem F_X6_share_0_129_l {pc : Nat} (h : Nat.blt pc 61 = true) : F_X6_share_0_129 pc = F_X6_share_0_58 pc := by unfold F_X6_share_0_129; rw [h]; rfl
theorem F_X6_share_0_129_r {pc : Nat} (h : Nat.blt pc 61 = false) : F_X6_share_0_129 pc = F_X6_share_61_129 pc := by unfold F_X6_share_0_129; rw [h]; rfl
theorem F_X6_share_0_129_ok : jOK Y_X6_share none (F_X6_share_0_129) := jOK_node (F_X6_share_0_58_ok) (F_X6_share_61_129_ok)
def F_X6_share : Nat → jT := F_X6_share_0_129
theorem OK_X6_share : jOK Y_X6_share none (F_X6_share) := F_X6_share_0_129_ok
theorem ft_X6_share_0 : F_X6_share 0 = J_aload 0 1 := (F_X6_share_0_129_l rfl).trans ((F_X6_share_0_58_l rfl).trans ((F_X6_share_0_27_l rfl).trans (ftl_X6_share_0)))
theorem ft_X6_share_1 : F_X6_share 1 = J_getfield 6 1 4 := (F_X6_share_0_129_l rfl).trans ((F_X6_share_0_58_l rfl).trans ((F_X6_share_0_27_l rfl).trans (ftl_X6_share_1)))
theorem ft_X6_share_4 : F_X6_share 4 = J_iload 1 5 := (F_X6_share_0_129_l rfl).trans ((F_X6_share_0_58_l rfl).trans ((F_X6_share_0_27_l rfl).trans (ftl_X6_share_4)))
theorem ft_X6_share_5 : F_X6_share 5 = J_callV 3 S_X3_hasPost 1 8 := (F_X6_share_0_129_l rfl).trans ((F_X6_share_0_58_l rfl).trans ((F_X6_share_0_27_l rfl).trans (ftl_X6_share_5)))
theorem ft_X6_share_8 : F_X6_share 8 = J_ifne 13 11 := (F_X6_share_0_129_l rfl).trans ((F_X6_share_0_58_l rfl).trans ((F_X6_share_0_27_l rfl).trans (ftl_X6_share_8)))
theorem ft_X6_share_11 : F_X6_share 11 = J_iconst (-1) 12 := (F_X6_share_0_129_l rfl).trans ((F_X6_share_0_58_l rfl).trans ((F_X6_share_0_27_l rfl).trans (ftl_X6_share_11)))
theorem ft_X6_share_12 : F_X6_share 12 = J_ireturn 0 0 := (F_X6_share_0_129_l rfl).trans ((F_X6_share_0_58_l rfl).trans ((F_X6_share_0_27_l rfl).trans (ftl_X6_share_12)))
theorem ft_X6_share_13 : F_X6_share 13 = J_aload 0 14 := (F_X6_share_0_129_l rfl).trans ((F_X6_share_0_58_l rfl).trans ((F_X6_share_0_27_l rfl).trans (ftl_X6_share_13)))
theorem ft_X6_share_14 : F_X6_share 14 = J_getfield 6 1 17 := (F_X6_share_0_129_l rfl).trans ((F_X6_share_0_58_l rfl).trans ((F_X6_share_0_27_r rfl).trans (ftl_X6_share_14)))
theorem ft_X6_share_17 : F_X6_share 17 = J_getfield 3 2 20 := (F_X6_share_0_129_l rfl).trans ((F_X6_share_0_58_l rfl).trans ((F_X6_share_0_27_r rfl).trans (ftl_X6_share_17)))
theorem ft_X6_share_20 : F_X6_share 20 = J_iconst 1 21 := (F_X6_share_0_129_l rfl).trans ((F_X6_share_0_58_l rfl).trans ((F_X6_share_0_27_r rfl).trans (ftl_X6_share_20)))
theorem ft_X6_share_21 : F_X6_share 21 = J_isub 22 := (F_X6_share_0_129_l rfl).trans ((F_X6_share_0_58_l rfl).trans ((F_X6_share_0_27_r rfl).trans (ftl_X6_share_21)))
theorem ft_X6_share_22 : F_X6_share 22 = J_istore 3 23 := (F_X6_share_0_129_l rfl).trans ((F_X6_share_0_58_l rfl).trans ((F_X6_share_0_27_r rfl).trans (ftl_X6_share_22)))
theorem ft_X6_share_23 : F_X6_share 23 = J_iconst 0 24 := (F_X6_share_0_129_l rfl).trans ((F_X6_share_0_58_l rfl).trans ((F_X6_share_0_27_r rfl).trans (ftl_X6_share_23)))
theorem ft_X6_share_24 : F_X6_share 24 = J_istore 4 26 := (F_X6_share_0_129_l rfl).trans ((F_X6_share_0_58_l rfl).trans ((F_X6_share_0_27_r rfl).trans (ftl_X6_share_24)))
theorem ft_X6_share_26 : F_X6_share 26 = J_iconst 0 27 := (F_X6_share_0_129_l rfl).trans ((F_X6_share_0_58_l rfl).trans ((F_X6_share_0_27_r rfl).trans (ftl_X6_share_26)))
theorem ft_X6_share_27 : F_X6_share 27 = J_istore 5 29 := (F_X6_share_0_129_l rfl).trans ((F_X6_share_0_58_l rfl).trans ((F_X6_share_0_27_r rfl).trans (ftl_X6_share_27)))
theorem ft_X6_share_29 : F_X6_share 29 = J_iload 5 31 := (F_X6_share_0_129_l rfl).trans ((F_X6_share_0_58_r rfl).trans ((F_X6_share_29_58_l rfl).trans (ftl_X6_share_29)))
theorem ft_X6_share_31 : F_X6_share 31 = J_iconst 1 32 := (F_X6_share_0_129_l rfl).trans ((F_X6_share_0_58_r rfl).trans ((F_X6_share_29_58_l rfl).trans (ftl_X6_share_31)))
theorem ft_X6_share_32 : F_X6_share 32 = J_aload 0 33 := (F_X6_share_0_129_l rfl).trans ((F_X6_share_0_58_r rfl).trans ((F_X6_share_29_58_l rfl).trans (ftl_X6_share_32)))
theorem ft_X6_share_33 : F_X6_share 33 = J_getfield 6 1 36 := (F_X6_share_0_129_l rfl).trans ((F_X6_share_0_58_r rfl).trans ((F_X6_share_29_58_l rfl).trans (ftl_X6_share_33)))
theorem ft_X6_share_36 : F_X6_share 36 = J_getfield 3 2 39 := (F_X6_share_0_129_l rfl).trans ((F_X6_share_0_58_r rfl).trans ((F_X6_share_29_58_l rfl).trans (ftl_X6_share_36)))
theorem ft_X6_share_39 : F_X6_share 39 = J_ishl 40 := (F_X6_share_0_129_l rfl).trans ((F_X6_share_0_58_r rfl).trans ((F_X6_share_29_58_l rfl).trans (ftl_X6_share_39)))
theorem ft_X6_share_40 : F_X6_share 40 = J_icge 113 43 := (F_X6_share_0_129_l rfl).trans ((F_X6_share_0_58_r rfl).trans ((F_X6_share_29_58_l rfl).trans (ftl_X6_share_40)))
theorem ft_X6_share_43 : F_X6_share 43 = J_iload 5 45 := (F_X6_share_0_129_l rfl).trans ((F_X6_share_0_58_r rfl).trans ((F_X6_share_29_58_l rfl).trans (ftl_X6_share_43)))
theorem ft_X6_share_45 : F_X6_share 45 = J_iconst 1 46 := (F_X6_share_0_129_l rfl).trans ((F_X6_share_0_58_r rfl).trans ((F_X6_share_29_58_l rfl).trans (ftl_X6_share_45)))
theorem ft_X6_share_46 : F_X6_share 46 = J_iload 1 47 := (F_X6_share_0_129_l rfl).trans ((F_X6_share_0_58_r rfl).trans ((F_X6_share_29_58_r rfl).trans (ftl_X6_share_46)))
theorem ft_X6_share_47 : F_X6_share 47 = J_ishl 48 := (F_X6_share_0_129_l rfl).trans ((F_X6_share_0_58_r rfl).trans ((F_X6_share_29_58_r rfl).trans (ftl_X6_share_47)))
theorem ft_X6_share_48 : F_X6_share 48 = J_iconst (-1) 49 := (F_X6_share_0_129_l rfl).trans ((F_X6_share_0_58_r rfl).trans ((F_X6_share_29_58_r rfl).trans (ftl_X6_share_48)))
theorem ft_X6_share_49 : F_X6_share 49 = J_ixor 50 := (F_X6_share_0_129_l rfl).trans ((F_X6_share_0_58_r rfl).trans ((F_X6_share_29_58_r rfl).trans (ftl_X6_share_49)))
theorem ft_X6_share_50 : F_X6_share 50 = J_iand 51 := (F_X6_share_0_129_l rfl).trans ((F_X6_share_0_58_r rfl).trans ((F_X6_share_29_58_r rfl).trans (ftl_X6_share_50)))
theorem ft_X6_share_51 : F_X6_share 51 = J_callS S_J6_bitCount_0f7a4 1 54 := (F_X6_share_0_129_l rfl).trans ((F_X6_share_0_58_r rfl).trans ((F_X6_share_29_58_r rfl).trans (ftl_X6_share_51)))
theorem ft_X6_share_54 : F_X6_share 54 = J_istore 6 56 := (F_X6_share_0_129_l rfl).trans ((F_X6_share_0_58_r rfl).trans ((F_X6_share_29_58_r rfl).trans (ftl_X6_share_54)))
theorem ft_X6_share_56 : F_X6_share 56 = J_iload 6 58 := (F_X6_share_0_129_l rfl).trans ((F_X6_share_0_58_r rfl).trans ((F_X6_share_29_58_r rfl).trans (ftl_X6_share_56)))
theorem ft_X6_share_58 : F_X6_share 58 = J_callS S_X6_factorial 1 61 := (F_X6_share_0_129_l rfl).trans ((F_X6_share_0_58_r rfl).trans ((F_X6_share_29_58_r rfl).trans (ftl_X6_share_58)))
theorem ft_X6_share_61 : F_X6_share 61 = J_iload 3 62 := (F_X6_share_0_129_r rfl).trans ((F_X6_share_61_129_l rfl).trans ((F_X6_share_61_91_l rfl).trans (ftl_X6_share_61)))
theorem ft_X6_share_62 : F_X6_share 62 = J_iload 6 64 := (F_X6_share_0_129_r rfl).trans ((F_X6_share_61_129_l rfl).trans ((F_X6_share_61_91_l rfl).trans (ftl_X6_share_62)))
theorem ft_X6_share_64 : F_X6_share 64 = J_isub 65 := (F_X6_share_0_129_r rfl).trans ((F_X6_share_61_129_l rfl).trans ((F_X6_share_61_91_l rfl).trans (ftl_X6_share_64)))
theorem ft_X6_share_65 : F_X6_share 65 = J_callS S_X6_factorial 1 68 := (F_X6_share_0_129_r rfl).trans ((F_X6_share_61_129_l rfl).trans ((F_X6_share_61_91_l rfl).trans (ftl_X6_share_65)))
theorem ft_X6_share_68 : F_X6_share 68 = J_imul 69 := (F_X6_share_0_129_r rfl).trans ((F_X6_share_61_129_l rfl).trans ((F_X6_share_61_91_l rfl).trans (ftl_X6_share_68)))
theorem ft_X6_share_69 : F_X6_share 69 = J_istore 7 71 := (F_X6_share_0_129_r rfl).trans ((F_X6_share_61_129_l rfl).trans ((F_X6_share_61_91_l rfl).trans (ftl_X6_share_69)))
theorem ft_X6_share_71 : F_X6_share 71 = J_iload 4 73 := (F_X6_share_0_129_r rfl).trans ((F_X6_share_61_129_l rfl).trans ((F_X6_share_61_91_l rfl).trans (ftl_X6_share_71)))
theorem ft_X6_share_73 : F_X6_share 73 = J_iload 5 75 := (F_X6_share_0_129_r rfl).trans ((F_X6_share_61_129_l rfl).trans ((F_X6_share_61_91_l rfl).trans (ftl_X6_share_73)))
theorem ft_X6_share_75 : F_X6_share 75 = J_iload 1 76 := (F_X6_share_0_129_r rfl).trans ((F_X6_share_61_129_l rfl).trans ((F_X6_share_61_91_r rfl).trans (ftl_X6_share_75)))
theorem ft_X6_share_76 : F_X6_share 76 = J_callS S_X6_has 2 79 := (F_X6_share_0_129_r rfl).trans ((F_X6_share_61_129_l rfl).trans ((F_X6_share_61_91_r rfl).trans (ftl_X6_share_76)))
theorem ft_X6_share_79 : F_X6_share 79 = J_ifeq 94 82 := (F_X6_share_0_129_r rfl).trans ((F_X6_share_61_129_l rfl).trans ((F_X6_share_61_91_r rfl).trans (ftl_X6_share_79)))
theorem ft_X6_share_82 : F_X6_share 82 = J_iload 7 84 := (F_X6_share_0_129_r rfl).trans ((F_X6_share_61_129_l rfl).trans ((F_X6_share_61_91_r rfl).trans (ftl_X6_share_82)))
theorem ft_X6_share_84 : F_X6_share 84 = J_aload 0 85 := (F_X6_share_0_129_r rfl).trans ((F_X6_share_61_129_l rfl).trans ((F_X6_share_61_91_r rfl).trans (ftl_X6_share_84)))
theorem ft_X6_share_85 : F_X6_share 85 = J_iload 5 87 := (F_X6_share_0_129_r rfl).trans ((F_X6_share_61_129_l rfl).trans ((F_X6_share_61_91_r rfl).trans (ftl_X6_share_85)))
theorem ft_X6_share_87 : F_X6_share 87 = J_callV 6 S_X6_worth 1 90 := (F_X6_share_0_129_r rfl).trans ((F_X6_share_61_129_l rfl).trans ((F_X6_share_61_91_r rfl).trans (ftl_X6_share_87)))
theorem ft_X6_share_90 : F_X6_share 90 = J_imul 91 := (F_X6_share_0_129_r rfl).trans ((F_X6_share_61_129_l rfl).trans ((F_X6_share_61_91_r rfl).trans (ftl_X6_share_90)))
theorem ft_X6_share_91 : F_X6_share 91 = J_goto 104 := (F_X6_share_0_129_r rfl).trans ((F_X6_share_61_129_l rfl).trans ((F_X6_share_61_91_r rfl).trans (ftl_X6_share_91)))
theorem ft_X6_share_94 : F_X6_share 94 = J_iload 7 96 := (F_X6_share_0_129_r rfl).trans ((F_X6_share_61_129_r rfl).trans ((F_X6_share_94_129_l rfl).trans (ftl_X6_share_94)))
theorem ft_X6_share_96 : F_X6_share 96 = J_ineg 97 := (F_X6_share_0_129_r rfl).trans ((F_X6_share_61_129_r rfl).trans ((F_X6_share_94_129_l rfl).trans (ftl_X6_share_96)))
theorem ft_X6_share_97 : F_X6_share 97 = J_aload 0 98 := (F_X6_share_0_129_r rfl).trans ((F_X6_share_61_129_r rfl).trans ((F_X6_share_94_129_l rfl).trans (ftl_X6_share_97)))
theorem ft_X6_share_98 : F_X6_share 98 = J_iload 5 100 := (F_X6_share_0_129_r rfl).trans ((F_X6_share_61_129_r rfl).trans ((F_X6_share_94_129_l rfl).trans (ftl_X6_share_98)))
theorem ft_X6_share_100 : F_X6_share 100 = J_callV 6 S_X6_worth 1 103 := (F_X6_share_0_129_r rfl).trans ((F_X6_share_61_129_r rfl).trans ((F_X6_share_94_129_l rfl).trans (ftl_X6_share_100)))
theorem ft_X6_share_103 : F_X6_share 103 = J_imul 104 := (F_X6_share_0_129_r rfl).trans ((F_X6_share_61_129_r rfl).trans ((F_X6_share_94_129_l rfl).trans (ftl_X6_share_103)))
theorem ft_X6_share_104 : F_X6_share 104 = J_iadd 105 := (F_X6_share_0_129_r rfl).trans ((F_X6_share_61_129_r rfl).trans ((F_X6_share_94_129_l rfl).trans (ftl_X6_share_104)))
theorem ft_X6_share_105 : F_X6_share 105 = J_istore 4 107 := (F_X6_share_0_129_r rfl).trans ((F_X6_share_61_129_r rfl).trans ((F_X6_share_94_129_l rfl).trans (ftl_X6_share_105)))
theorem ft_X6_share_107 : F_X6_share 107 = J_iinc 5 1 110 := (F_X6_share_0_129_r rfl).trans ((F_X6_share_61_129_r rfl).trans ((F_X6_share_94_129_l rfl).trans (ftl_X6_share_107)))
theorem ft_X6_share_110 : F_X6_share 110 = J_goto 29 := (F_X6_share_0_129_r rfl).trans ((F_X6_share_61_129_r rfl).trans ((F_X6_share_94_129_r rfl).trans (ftl_X6_share_110)))
theorem ft_X6_share_113 : F_X6_share 113 = J_iload 4 115 := (F_X6_share_0_129_r rfl).trans ((F_X6_share_61_129_r rfl).trans ((F_X6_share_94_129_r rfl).trans (ftl_X6_share_113)))
theorem ft_X6_share_115 : F_X6_share 115 = J_aload 0 116 := (F_X6_share_0_129_r rfl).trans ((F_X6_share_61_129_r rfl).trans ((F_X6_share_94_129_r rfl).trans (ftl_X6_share_115)))
theorem ft_X6_share_116 : F_X6_share 116 = J_getfield 6 1 119 := (F_X6_share_0_129_r rfl).trans ((F_X6_share_61_129_r rfl).trans ((F_X6_share_94_129_r rfl).trans (ftl_X6_share_116)))
theorem ft_X6_share_119 : F_X6_share 119 = J_getfield 3 2 122 := (F_X6_share_0_129_r rfl).trans ((F_X6_share_61_129_r rfl).trans ((F_X6_share_94_129_r rfl).trans (ftl_X6_share_119)))
theorem ft_X6_share_122 : F_X6_share 122 = J_callS S_X6_factorial 1 125 := (F_X6_share_0_129_r rfl).trans ((F_X6_share_61_129_r rfl).trans ((F_X6_share_94_129_r rfl).trans (ftl_X6_share_122)))
theorem ft_X6_share_125 : F_X6_share 125 = J_iload 2 126 := (F_X6_share_0_129_r rfl).trans ((F_X6_share_61_129_r rfl).trans ((F_X6_share_94_129_r rfl).trans (ftl_X6_share_125)))
theorem ft_X6_share_126 : F_X6_share 126 = J_callS S_X6_lowest 3 129 := (F_X6_share_0_129_r rfl).trans ((F_X6_share_61_129_r rfl).trans ((F_X6_share_94_129_r rfl).trans (ftl_X6_share_126)))
theorem ft_X6_share_129 : F_X6_share 129 = J_ireturn 0 0 := (F_X6_share_0_129_r rfl).trans ((F_X6_share_61_129_r rfl).trans ((F_X6_share_94_129_r rfl).trans (ftl_X6_share_129)))
theorem lp_X6_share {Q : jQ} {C : Nat → Nat → Int32} {z : Nat → Int64} {nb P p : Nat} {u : Int32} (r : RC C P) (hp : p < P) :
    ∀ k j, j + k = 2 ^ P → ∀ o o2 : Option Value, ∀ C1, Hv C C1 → (∀ C', Hv C C' → Q (some (.int (lowF (shS C P (nI p) (2 ^ P)) (facF (nI P)) u))) (memS 94 C' z)) → Rn Y_X6_share none Q 29 [some (.ref 0), some (.int (nI p)), some (.int u), some (.int (nI P - 1)), some (.int (shS C P (nI p) j)), some (.int (nI j)), o, o2] [] (memS 94 C1 z) (nb, 0, 0) := by
  have h16 := p2_lt r.h4
  intro k
  induction k with
  | zero =>
    intro j hj o o2 C1 v h
    have hc : (nI (2 ^ P) ≤ nI j) = True := eq_true (nI_le (by omega) (by omega))
    refine jrun_first OK_X6_share (C := [29]) 60 ?_
    simp -implicitDefEqProofs only [jr_0, jr_1, jr_2, j_iconst, j_lconst, j_iload0, j_aload0, j_istore0, j_astore0, j_iinc0, j_iload1, j_aload1, j_istore1, j_astore1, j_iinc1, j_iload2, j_aload2, j_istore2, j_astore2, j_iinc2, j_iload3, j_aload3, j_istore3, j_astore3, j_iinc3, j_iload4, j_aload4, j_istore4, j_astore4, j_iinc4, j_iload5, j_aload5, j_istore5, j_astore5, j_iinc5, j_iload6, j_aload6, j_istore6, j_astore6, j_iinc6, j_iload7, j_aload7, j_istore7, j_astore7, j_iinc7, j_iload8, j_aload8, j_istore8, j_astore8, j_iinc8, j_iadd, j_isub, j_imul, j_iand, j_ior, j_ixor, j_ishl, j_ishr, j_iushr, j_idiv, j_irem, j_ineg, j_ladd, j_lmul, j_land, j_lor, j_lcmp, j_lushr, j_lshl, j_i2l, j_l2i, j_dupI, j_dupR, j_popI, j_dup2, j_ifeq, j_iceq, j_ifne, j_icne, j_iflt, j_iclt, j_ifge, j_icge, j_ifgt, j_icgt, j_ifle, j_icle, j_goto, j_tsw, j_sw0, j_sw1, j_ireturn, j_zreturn, j_lreturn, j_return, j_getfield, j_putI, j_putJ, j_putR, j_iaload, j_baload, j_iastore, j_bastore, j_aaload, j_q, j_aastore, j_acopy, j_mmin, j_mmax, j_mabs, j_objinit, j_new, j_newI, j_newQ, j_sld, j_slen, j_callV0, j_callI0, j_callS0, j_callV1, j_callI1, j_callS1, j_callV2, j_callI2, j_callS2, j_callV3, j_callS3, j_callV4, j_callS4, j_callV5, j_callS5, j_pushS, j_pushN, j_sh0, j_sh1, j_sh2, j_sh3, j_sh4, Int32.reduceAdd, Int32.reduceMul, Int32.reduceSub, Int32.reduceLT, Int32.reduceLE, eq_self, i32_10, i32_01, ne_eq, hrow_s, hrow_n, ne10, ne100, ne1000, ne7, ne4, ne14, ne9973, or_true, true_or, or_false, false_or, not_true_eq_false, not_false_eq_true, false_implies, implies_true, and_true, forall_const, true_implies, jargs_n, jargs_r, jargs_i, List.cons_append, List.nil_append, true_and, Nat.reduceEqDiff, reduceIte, ft_X6_share_0, ft_X6_share_1, ft_X6_share_4, ft_X6_share_5, ft_X6_share_8, ft_X6_share_11, ft_X6_share_12, ft_X6_share_13, ft_X6_share_14, ft_X6_share_17, ft_X6_share_20, ft_X6_share_21, ft_X6_share_22, ft_X6_share_23, ft_X6_share_24, ft_X6_share_26, ft_X6_share_27, ft_X6_share_29, ft_X6_share_31, ft_X6_share_32, ft_X6_share_33, ft_X6_share_36, ft_X6_share_39, ft_X6_share_40, ft_X6_share_43, ft_X6_share_45, ft_X6_share_46, ft_X6_share_47, ft_X6_share_48, ft_X6_share_49, ft_X6_share_50, ft_X6_share_51, ft_X6_share_54, ft_X6_share_56, ft_X6_share_58, ft_X6_share_61, ft_X6_share_62, ft_X6_share_64, ft_X6_share_65, ft_X6_share_68, ft_X6_share_69, ft_X6_share_71, ft_X6_share_73, ft_X6_share_75, ft_X6_share_76, ft_X6_share_79, ft_X6_share_82, ft_X6_share_84, ft_X6_share_85, ft_X6_share_87, ft_X6_share_90, ft_X6_share_91, ft_X6_share_94, ft_X6_share_96, ft_X6_share_97, ft_X6_share_98, ft_X6_share_100, ft_X6_share_103, ft_X6_share_104, ft_X6_share_105, ft_X6_share_107, ft_X6_share_110, ft_X6_share_113, ft_X6_share_115, ft_X6_share_116, ft_X6_share_119, ft_X6_share_122, ft_X6_share_125, ft_X6_share_126, ft_X6_share_129, fl_0_1, fl_3_2, v.r 3 rfl, r.hP, shlP P r.h4, hc, s_X6_factorial, fac_ok P r.h4, s_X6_lowest]
    rw [show j = 2 ^ P by omega]
    exact h C1 v
  | succ k ih =>
    intro j hj o o2 C1 v h
    have hc : (nI (2 ^ P) ≤ nI j) = False := eq_false (nI_ge (by omega) (by omega))
    have he := earl_ok P r.h4 p hp j (by omega)
    have hk := fun o o2 C1 v => ih (j + 1) (by omega) o o2 C1 v h
    unfold shS shT ordsF at hk
    unfold earl at he hk
    refine jrun_first OK_X6_share (C := [29]) 80 ?_
    simp -implicitDefEqProofs only [jr_0, jr_1, jr_2, j_iconst, j_lconst, j_iload0, j_aload0, j_istore0, j_astore0, j_iinc0, j_iload1, j_aload1, j_istore1, j_astore1, j_iinc1, j_iload2, j_aload2, j_istore2, j_astore2, j_iinc2, j_iload3, j_aload3, j_istore3, j_astore3, j_iinc3, j_iload4, j_aload4, j_istore4, j_astore4, j_iinc4, j_iload5, j_aload5, j_istore5, j_astore5, j_iinc5, j_iload6, j_aload6, j_istore6, j_astore6, j_iinc6, j_iload7, j_aload7, j_istore7, j_astore7, j_iinc7, j_iload8, j_aload8, j_istore8, j_astore8, j_iinc8, j_iadd, j_isub, j_imul, j_iand, j_ior, j_ixor, j_ishl, j_ishr, j_iushr, j_idiv, j_irem, j_ineg, j_ladd, j_lmul, j_land, j_lor, j_lcmp, j_lushr, j_lshl, j_i2l, j_l2i, j_dupI, j_dupR, j_popI, j_dup2, j_ifeq, j_iceq, j_ifne, j_icne, j_iflt, j_iclt, j_ifge, j_icge, j_ifgt, j_icgt, j_ifle, j_icle, j_goto, j_tsw, j_sw0, j_sw1, j_ireturn, j_zreturn, j_lreturn, j_return, j_getfield, j_putI, j_putJ, j_putR, j_iaload, j_baload, j_iastore, j_bastore, j_aaload, j_q, j_aastore, j_acopy, j_mmin, j_mmax, j_mabs, j_objinit, j_new, j_newI, j_newQ, j_sld, j_slen, j_callV0, j_callI0, j_callS0, j_callV1, j_callI1, j_callS1, j_callV2, j_callI2, j_callS2, j_callV3, j_callS3, j_callV4, j_callS4, j_callV5, j_callS5, j_pushS, j_pushN, j_sh0, j_sh1, j_sh2, j_sh3, j_sh4, Int32.reduceAdd, Int32.reduceMul, Int32.reduceSub, Int32.reduceLT, Int32.reduceLE, eq_self, i32_10, i32_01, ne_eq, hrow_s, hrow_n, ne10, ne100, ne1000, ne7, ne4, ne14, ne9973, or_true, true_or, or_false, false_or, not_true_eq_false, not_false_eq_true, false_implies, implies_true, and_true, forall_const, true_implies, jargs_n, jargs_r, jargs_i, List.cons_append, List.nil_append, true_and, Nat.reduceEqDiff, reduceIte, ft_X6_share_0, ft_X6_share_1, ft_X6_share_4, ft_X6_share_5, ft_X6_share_8, ft_X6_share_11, ft_X6_share_12, ft_X6_share_13, ft_X6_share_14, ft_X6_share_17, ft_X6_share_20, ft_X6_share_21, ft_X6_share_22, ft_X6_share_23, ft_X6_share_24, ft_X6_share_26, ft_X6_share_27, ft_X6_share_29, ft_X6_share_31, ft_X6_share_32, ft_X6_share_33, ft_X6_share_36, ft_X6_share_39, ft_X6_share_40, ft_X6_share_43, ft_X6_share_45, ft_X6_share_46, ft_X6_share_47, ft_X6_share_48, ft_X6_share_49, ft_X6_share_50, ft_X6_share_51, ft_X6_share_54, ft_X6_share_56, ft_X6_share_58, ft_X6_share_61, ft_X6_share_62, ft_X6_share_64, ft_X6_share_65, ft_X6_share_68, ft_X6_share_69, ft_X6_share_71, ft_X6_share_73, ft_X6_share_75, ft_X6_share_76, ft_X6_share_79, ft_X6_share_82, ft_X6_share_84, ft_X6_share_85, ft_X6_share_87, ft_X6_share_90, ft_X6_share_91, ft_X6_share_94, ft_X6_share_96, ft_X6_share_97, ft_X6_share_98, ft_X6_share_100, ft_X6_share_103, ft_X6_share_104, ft_X6_share_105, ft_X6_share_107, ft_X6_share_110, ft_X6_share_113, ft_X6_share_115, ft_X6_share_116, ft_X6_share_119, ft_X6_share_122, ft_X6_share_125, ft_X6_share_126, ft_X6_share_129, fl_0_1, fl_3_2, rc_0, v.r 3 rfl, r.hP, shlP P r.h4, hc, s_J6_bitCount, s_X6_factorial, he, s_X6_hasP, zb_0, nI_1]
    by_cases h1 : hasP (nI j) (nI p)
    · simp only [pick_t h1] at hk
      simp only [h1, not_true_eq_false, not_false_eq_true, true_implies, false_implies, implies_true, and_true, true_and, forall_const]
      refine s_X6_worth r v fun C2 v2 => ?_
      simp -implicitDefEqProofs only [jr_0, jr_1, jr_2, j_iconst, j_lconst, j_iload0, j_aload0, j_istore0, j_astore0, j_iinc0, j_iload1, j_aload1, j_istore1, j_astore1, j_iinc1, j_iload2, j_aload2, j_istore2, j_astore2, j_iinc2, j_iload3, j_aload3, j_istore3, j_astore3, j_iinc3, j_iload4, j_aload4, j_istore4, j_astore4, j_iinc4, j_iload5, j_aload5, j_istore5, j_astore5, j_iinc5, j_iload6, j_aload6, j_istore6, j_astore6, j_iinc6, j_iload7, j_aload7, j_istore7, j_astore7, j_iinc7, j_iload8, j_aload8, j_istore8, j_astore8, j_iinc8, j_iadd, j_isub, j_imul, j_iand, j_ior, j_ixor, j_ishl, j_ishr, j_iushr, j_idiv, j_irem, j_ineg, j_ladd, j_lmul, j_land, j_lor, j_lcmp, j_lushr, j_lshl, j_i2l, j_l2i, j_dupI, j_dupR, j_popI, j_dup2, j_ifeq, j_iceq, j_ifne, j_icne, j_iflt, j_iclt, j_ifge, j_icge, j_ifgt, j_icgt, j_ifle, j_icle, j_goto, j_tsw, j_sw0, j_sw1, j_ireturn, j_zreturn, j_lreturn, j_return, j_getfield, j_putI, j_putJ, j_putR, j_iaload, j_baload, j_iastore, j_bastore, j_aaload, j_q, j_aastore, j_acopy, j_mmin, j_mmax, j_mabs, j_objinit, j_new, j_newI, j_newQ, j_sld, j_slen, j_callV0, j_callI0, j_callS0, j_callV1, j_callI1, j_callS1, j_callV2, j_callI2, j_callS2, j_callV3, j_callS3, j_callV4, j_callS4, j_callV5, j_callS5, j_pushS, j_pushN, j_sh0, j_sh1, j_sh2, j_sh3, j_sh4, Int32.reduceAdd, Int32.reduceMul, Int32.reduceSub, Int32.reduceLT, Int32.reduceLE, eq_self, i32_10, i32_01, ne_eq, hrow_s, hrow_n, ne10, ne100, ne1000, ne7, ne4, ne14, ne9973, or_true, true_or, or_false, false_or, not_true_eq_false, not_false_eq_true, false_implies, implies_true, and_true, forall_const, true_implies, jargs_n, jargs_r, jargs_i, List.cons_append, List.nil_append, true_and, Nat.reduceEqDiff, reduceIte, ft_X6_share_0, ft_X6_share_1, ft_X6_share_4, ft_X6_share_5, ft_X6_share_8, ft_X6_share_11, ft_X6_share_12, ft_X6_share_13, ft_X6_share_14, ft_X6_share_17, ft_X6_share_20, ft_X6_share_21, ft_X6_share_22, ft_X6_share_23, ft_X6_share_24, ft_X6_share_26, ft_X6_share_27, ft_X6_share_29, ft_X6_share_31, ft_X6_share_32, ft_X6_share_33, ft_X6_share_36, ft_X6_share_39, ft_X6_share_40, ft_X6_share_43, ft_X6_share_45, ft_X6_share_46, ft_X6_share_47, ft_X6_share_48, ft_X6_share_49, ft_X6_share_50, ft_X6_share_51, ft_X6_share_54, ft_X6_share_56, ft_X6_share_58, ft_X6_share_61, ft_X6_share_62, ft_X6_share_64, ft_X6_share_65, ft_X6_share_68, ft_X6_share_69, ft_X6_share_71, ft_X6_share_73, ft_X6_share_75, ft_X6_share_76, ft_X6_share_79, ft_X6_share_82, ft_X6_share_84, ft_X6_share_85, ft_X6_share_87, ft_X6_share_90, ft_X6_share_91, ft_X6_share_94, ft_X6_share_96, ft_X6_share_97, ft_X6_share_98, ft_X6_share_100, ft_X6_share_103, ft_X6_share_104, ft_X6_share_105, ft_X6_share_107, ft_X6_share_110, ft_X6_share_113, ft_X6_share_115, ft_X6_share_116, ft_X6_share_119, ft_X6_share_122, ft_X6_share_125, ft_X6_share_126, ft_X6_share_129, nI_1]
      exact hk _ _ C2 v2
    · simp only [pick_f h1] at hk
      simp only [h1, not_true_eq_false, not_false_eq_true, true_implies, false_implies, implies_true, and_true, true_and, forall_const]
      refine s_X6_worth r v fun C2 v2 => ?_
      simp -implicitDefEqProofs only [jr_0, jr_1, jr_2, j_iconst, j_lconst, j_iload0, j_aload0, j_istore0, j_astore0, j_iinc0, j_iload1, j_aload1, j_istore1, j_astore1, j_iinc1, j_iload2, j_aload2, j_istore2, j_astore2, j_iinc2, j_iload3, j_aload3, j_istore3, j_astore3, j_iinc3, j_iload4, j_aload4, j_istore4, j_astore4, j_iinc4, j_iload5, j_aload5, j_istore5, j_astore5, j_iinc5, j_iload6, j_aload6, j_istore6, j_astore6, j_iinc6, j_iload7, j_aload7, j_istore7, j_astore7, j_iinc7, j_iload8, j_aload8, j_istore8, j_astore8, j_iinc8, j_iadd, j_isub, j_imul, j_iand, j_ior, j_ixor, j_ishl, j_ishr, j_iushr, j_idiv, j_irem, j_ineg, j_ladd, j_lmul, j_land, j_lor, j_lcmp, j_lushr, j_lshl, j_i2l, j_l2i, j_dupI, j_dupR, j_popI, j_dup2, j_ifeq, j_iceq, j_ifne, j_icne, j_iflt, j_iclt, j_ifge, j_icge, j_ifgt, j_icgt, j_ifle, j_icle, j_goto, j_tsw, j_sw0, j_sw1, j_ireturn, j_zreturn, j_lreturn, j_return, j_getfield, j_putI, j_putJ, j_putR, j_iaload, j_baload, j_iastore, j_bastore, j_aaload, j_q, j_aastore, j_acopy, j_mmin, j_mmax, j_mabs, j_objinit, j_new, j_newI, j_newQ, j_sld, j_slen, j_callV0, j_callI0, j_callS0, j_callV1, j_callI1, j_callS1, j_callV2, j_callI2, j_callS2, j_callV3, j_callS3, j_callV4, j_callS4, j_callV5, j_callS5, j_pushS, j_pushN, j_sh0, j_sh1, j_sh2, j_sh3, j_sh4, Int32.reduceAdd, Int32.reduceMul, Int32.reduceSub, Int32.reduceLT, Int32.reduceLE, eq_self, i32_10, i32_01, ne_eq, hrow_s, hrow_n, ne10, ne100, ne1000, ne7, ne4, ne14, ne9973, or_true, true_or, or_false, false_or, not_true_eq_false, not_false_eq_true, false_implies, implies_true, and_true, forall_const, true_implies, jargs_n, jargs_r, jargs_i, List.cons_append, List.nil_append, true_and, Nat.reduceEqDiff, reduceIte, ft_X6_share_0, ft_X6_share_1, ft_X6_share_4, ft_X6_share_5, ft_X6_share_8, ft_X6_share_11, ft_X6_share_12, ft_X6_share_13, ft_X6_share_14, ft_X6_share_17, ft_X6_share_20, ft_X6_share_21, ft_X6_share_22, ft_X6_share_23, ft_X6_share_24, ft_X6_share_26, ft_X6_share_27, ft_X6_share_29, ft_X6_share_31, ft_X6_share_32, ft_X6_share_33, ft_X6_share_36, ft_X6_share_39, ft_X6_share_40, ft_X6_share_43, ft_X6_share_45, ft_X6_share_46, ft_X6_share_47, ft_X6_share_48, ft_X6_share_49, ft_X6_share_50, ft_X6_share_51, ft_X6_share_54, ft_X6_share_56, ft_X6_share_58, ft_X6_share_61, ft_X6_share_62, ft_X6_share_64, ft_X6_share_65, ft_X6_share_68, ft_X6_share_69, ft_X6_share_71, ft_X6_share_73, ft_X6_share_75, ft_X6_share_76, ft_X6_share_79, ft_X6_share_82, ft_X6_share_84, ft_X6_share_85, ft_X6_share_87, ft_X6_share_90, ft_X6_share_91, ft_X6_share_94, ft_X6_share_96, ft_X6_share_97, ft_X6_share_98, ft_X6_share_100, ft_X6_share_103, ft_X6_share_104, ft_X6_share_105, ft_X6_share_107, ft_X6_share_110, ft_X6_share_113, ft_X6_share_115, ft_X6_share_116, ft_X6_share_119, ft_X6_share_122, ft_X6_share_125, ft_X6_share_126, ft_X6_share_129, nI_1]
      exact hk _ _ C2 v2
theorem ok_X6_share : jMeets Y_X6_share S_X6_share := by
  intro nb vs mem Q h
  obtain ⟨C, z, P, p, u, rfl, rfl, r, hQ⟩ := h
  refine Ok.run OK_X6_share [29] 60 [none, none, none, none, none] pn6 (Nat.le_of_ble_eq_true rfl) rfl ?_
  simp -implicitDefEqProofs only [jr_0, jr_1, jr_2, j_iconst, j_lconst, j_iload0, j_aload0, j_istore0, j_astore0, j_iinc0, j_iload1, j_aload1, j_istore1, j_astore1, j_iinc1, j_iload2, j_aload2, j_istore2, j_astore2, j_iinc2, j_iload3, j_aload3, j_istore3, j_astore3, j_iinc3, j_iload4, j_aload4, j_istore4, j_astore4, j_iinc4, j_iload5, j_aload5, j_istore5, j_astore5, j_iinc5, j_iload6, j_aload6, j_istore6, j_astore6, j_iinc6, j_iload7, j_aload7, j_istore7, j_astore7, j_iinc7, j_iload8, j_aload8, j_istore8, j_astore8, j_iinc8, j_iadd, j_isub, j_imul, j_iand, j_ior, j_ixor, j_ishl, j_ishr, j_iushr, j_idiv, j_irem, j_ineg, j_ladd, j_lmul, j_land, j_lor, j_lcmp, j_lushr, j_lshl, j_i2l, j_l2i, j_dupI, j_dupR, j_popI, j_dup2, j_ifeq, j_iceq, j_ifne, j_icne, j_iflt, j_iclt, j_ifge, j_icge, j_ifgt, j_icgt, j_ifle, j_icle, j_goto, j_tsw, j_sw0, j_sw1, j_ireturn, j_zreturn, j_lreturn, j_return, j_getfield, j_putI, j_putJ, j_putR, j_iaload, j_baload, j_iastore, j_bastore, j_aaload, j_q, j_aastore, j_acopy, j_mmin, j_mmax, j_mabs, j_objinit, j_new, j_newI, j_newQ, j_sld, j_slen, j_callV0, j_callI0, j_callS0, j_callV1, j_callI1, j_callS1, j_callV2, j_callI2, j_callS2, j_callV3, j_callS3, j_callV4, j_callS4, j_callV5, j_callS5, j_pushS, j_pushN, j_sh0, j_sh1, j_sh2, j_sh3, j_sh4, Int32.reduceAdd, Int32.reduceMul, Int32.reduceSub, Int32.reduceLT, Int32.reduceLE, eq_self, i32_10, i32_01, ne_eq, hrow_s, hrow_n, ne10, ne100, ne1000, ne7, ne4, ne14, ne9973, or_true, true_or, or_false, false_or, not_true_eq_false, not_false_eq_true, false_implies, implies_true, and_true, forall_const, true_implies, jargs_n, jargs_r, jargs_i, List.cons_append, List.nil_append, true_and, Nat.reduceEqDiff, reduceIte, ft_X6_share_0, ft_X6_share_1, ft_X6_share_4, ft_X6_share_5, ft_X6_share_8, ft_X6_share_11, ft_X6_share_12, ft_X6_share_13, ft_X6_share_14, ft_X6_share_17, ft_X6_share_20, ft_X6_share_21, ft_X6_share_22, ft_X6_share_23, ft_X6_share_24, ft_X6_share_26, ft_X6_share_27, ft_X6_share_29, ft_X6_share_31, ft_X6_share_32, ft_X6_share_33, ft_X6_share_36, ft_X6_share_39, ft_X6_share_40, ft_X6_share_43, ft_X6_share_45, ft_X6_share_46, ft_X6_share_47, ft_X6_share_48, ft_X6_share_49, ft_X6_share_50, ft_X6_share_51, ft_X6_share_54, ft_X6_share_56, ft_X6_share_58, ft_X6_share_61, ft_X6_share_62, ft_X6_share_64, ft_X6_share_65, ft_X6_share_68, ft_X6_share_69, ft_X6_share_71, ft_X6_share_73, ft_X6_share_75, ft_X6_share_76, ft_X6_share_79, ft_X6_share_82, ft_X6_share_84, ft_X6_share_85, ft_X6_share_87, ft_X6_share_90, ft_X6_share_91, ft_X6_share_94, ft_X6_share_96, ft_X6_share_97, ft_X6_share_98, ft_X6_share_100, ft_X6_share_103, ft_X6_share_104, ft_X6_share_105, ft_X6_share_107, ft_X6_share_110, ft_X6_share_113, ft_X6_share_115, ft_X6_share_116, ft_X6_share_119, ft_X6_share_122, ft_X6_share_125, ft_X6_share_126, ft_X6_share_129, rc_3, fl_0_1, fl_3_2, s_okPost jD94, zb_0, r.hP]
  unfold shareA at hQ
  by_cases h1 : okPost C p
  · simp only [pick_t h1] at hQ
    simp only [h1, not_true_eq_false, not_false_eq_true, true_implies, false_implies, implies_true, and_true, true_and, forall_const]
    obtain ⟨ha, hb⟩ := h1
    rw [r.hP] at hb
    obtain ⟨m, hm, rfl⟩ := i32_rng (m := P) (by have := r.h4; omega) (Int32.not_lt.mpr ha) (Int32.not_le.mpr hb)
    exact lp_X6_share r hm (2 ^ P) 0 (by omega) none none C r.rf hQ
  · simp only [pick_f h1] at hQ
    simp only [h1, not_true_eq_false, not_false_eq_true, true_implies, false_implies, implies_true, and_true, true_and, forall_const]
    exact hQ C r.rf
theorem s_X6_share {nb P : Nat} {C : Nat → Nat → Int32} {z : Nat → Int64} {p u : Int32} {Q : jQ} (r : RC C P) (hQ : ∀ C', Hv C C' → Q (some (.int (shareA C P p u))) (memS 94 C' z)) : S_X6_share nb [.ref 0, .int p, .int u] (memS 94 C z) Q := ⟨C, z, P, p, u, rfl, rfl, r, hQ⟩
/-! chance -/
noncomputable def chT (C : Nat → Nat → Int32) (P n : Nat) (x f : Int32) : Int32 := pick (postsInF (goF C f 15 (-1) n (C 9)) 4 = 0) (powF x (bcF f).toNatClampNeg * powF (10 - x) (nI P - bcF f).toNatClampNeg) 0
noncomputable def chS (C : Nat → Nat → Int32) (P n : Nat) (x : Int32) : Nat → Int32
  | 0 => 0
  | k + 1 => chS C P n x k + chT C P n x (nI k)
noncomputable def chanceA (C : Nat → Nat → Int32) (P : Nat) (n x u : Int32) : Int32 := pick ((1 ≤ n ∧ n ≤ 9) ∧ 0 ≤ x ∧ x ≤ 10) (lowF (chS C P n.toNatClampNeg x (2 ^ P)) (powF 10 P) u) (-2)
def S_X6_chance : jSp := fun _ vs mem Q => ∃ C z P, ∃ n x u : Int32, vs = [.ref 0, .int n, .int x, .int u] ∧ mem = memS 94 C z ∧ RC C P ∧ ∀ C', Hv C C' → Q (some (.int (chanceA C P n x u))) (memS 94 C' z)
def F_X6_chance_0 : Nat → jT := fun pc => (bif Nat.blt pc 6 then (bif Nat.blt pc 2 then (bif Nat.blt pc 1 then (bif Nat.beq pc 0 then J_iload 1 1 else jbad) else (bif Nat.beq pc 1 then J_iconst 1 2 else jbad)) else (bif Nat.blt pc 5 then (bif Nat.beq pc 2 then J_iclt 21 5 else jbad) else (bif Nat.beq pc 5 then J_iload 1 6 else jbad))) else (bif Nat.blt pc 11 then (bif Nat.blt pc 8 then (bif Nat.beq pc 6 then J_iconst 9 8 else jbad) else (bif Nat.beq pc 8 then J_icgt 21 11 else jbad)) else (bif Nat.blt pc 12 then (bif Nat.beq pc 11 then J_iload 2 12 else jbad) else (bif Nat.blt pc 15 then (bif Nat.beq pc 12 then J_iflt 21 15 else jbad) else (bif Nat.beq pc 15 then J_iload 2 16 else jbad)))))
theorem ftl_X6_chance_0 : F_X6_chance_0 0 = J_iload 1 1 := rfl
theorem ftl_X6_chance_1 : F_X6_chance_0 1 = J_iconst 1 2 := rfl
theorem ftl_X6_chance_2 : F_X6_chance_0 2 = J_iclt 21 5 := rfl
theorem ftl_X6_chance_5 : F_X6_chance_0 5 = J_iload 1 6 := rfl
theorem ftl_X6_chance_6 : F_X6_chance_0 6 = J_iconst 9 8 := rfl
theorem ftl_X6_chance_8 : F_X6_chance_0 8 = J_icgt 21 11 := rfl
theorem ftl_X6_chance_11 : F_X6_chance_0 11 = J_iload 2 12 := rfl
theorem ftl_X6_chance_12 : F_X6_chance_0 12 = J_iflt 21 15 := rfl
theorem ftl_X6_chance_15 : F_X6_chance_0 15 = J_iload 2 16 := rfl
theorem F_X6_chance_0_ok : jOK Y_X6_chance none (F_X6_chance_0) := (jOK_node (jOK_node (jOK_node (jOK_leaf (sn_iload_n dX6_chance_0 rfl rfl)) (jOK_leaf (sn_iconst dX6_chance_1 rfl rfl))) (jOK_node (jOK_leaf (sn_iclt dX6_chance_2 rfl rfl)) (jOK_leaf (sn_iload_n dX6_chance_5 rfl rfl)))) (jOK_node (jOK_node (jOK_leaf (sn_bipush dX6_chance_6 rfl rfl)) (jOK_leaf (sn_icgt dX6_chance_8 rfl rfl))) (jOK_node (jOK_leaf (sn_iload_n dX6_chance_11 rfl rfl)) (jOK_node (jOK_leaf (sn_iflt dX6_chance_12 rfl rfl)) (jOK_leaf (sn_iload_n dX6_chance_15 rfl rfl))))))
def F_X6_chance_16 : Nat → jT := fun pc => (bif Nat.blt pc 24 then (bif Nat.blt pc 21 then (bif Nat.blt pc 18 then (bif Nat.beq pc 16 then J_iconst 10 18 else jbad) else (bif Nat.beq pc 18 then J_icle 24 21 else jbad)) else (bif Nat.blt pc 23 then (bif Nat.beq pc 21 then J_iconst (-2) 23 else jbad) else (bif Nat.beq pc 23 then J_ireturn 0 0 else jbad))) else (bif Nat.blt pc 27 then (bif Nat.blt pc 25 then (bif Nat.beq pc 24 then J_iconst 0 25 else jbad) else (bif Nat.beq pc 25 then J_istore 4 27 else jbad)) else (bif Nat.blt pc 28 then (bif Nat.beq pc 27 then J_iconst 0 28 else jbad) else (bif Nat.blt pc 30 then (bif Nat.beq pc 28 then J_istore 5 30 else jbad) else (bif Nat.beq pc 30 then J_iload 5 32 else jbad)))))
theorem ftl_X6_chance_16 : F_X6_chance_16 16 = J_iconst 10 18 := rfl
theorem ftl_X6_chance_18 : F_X6_chance_16 18 = J_icle 24 21 := rfl
theorem ftl_X6_chance_21 : F_X6_chance_16 21 = J_iconst (-2) 23 := rfl
theorem ftl_X6_chance_23 : F_X6_chance_16 23 = J_ireturn 0 0 := rfl
theorem ftl_X6_chance_24 : F_X6_chance_16 24 = J_iconst 0 25 := rfl
theorem ftl_X6_chance_25 : F_X6_chance_16 25 = J_istore 4 27 := rfl
theorem ftl_X6_chance_27 : F_X6_chance_16 27 = J_iconst 0 28 := rfl
theorem ftl_X6_chance_28 : F_X6_chance_16 28 = J_istore 5 30 := rfl
theorem ftl_X6_chance_30 : F_X6_chance_16 30 = J_iload 5 32 := rfl
theorem F_X6_chance_16_ok : jOK Y_X6_chance none (F_X6_chance_16) := (jOK_node (jOK_node (jOK_node (jOK_leaf (sn_bipush dX6_chance_16 rfl rfl)) (jOK_leaf (sn_icle dX6_chance_18 rfl rfl))) (jOK_node (jOK_leaf (sn_bipush dX6_chance_21 rfl rfl)) (jOK_leaf (sn_ireturn dX6_chance_23 rfl rfl)))) (jOK_node (jOK_node (jOK_leaf (sn_iconst dX6_chance_24 rfl rfl)) (jOK_leaf (sn_istore dX6_chance_25 rfl (by decide)))) (jOK_node (jOK_leaf (sn_iconst dX6_chance_27 rfl rfl)) (jOK_node (jOK_leaf (sn_istore dX6_chance_28 rfl (by decide))) (jOK_leaf (sn_iload dX6_chance_30 rfl))))))
def F_X6_chance_0_30 : Nat → jT := fun pc => bif Nat.blt pc 16 then F_X6_chance_0 pc else F_X6_chance_16 pc
theorem F_X6_chance_0_30_l {pc : Nat} (h : Nat.blt pc 16 = true) : F_X6_chance_0_30 pc = F_X6_chance_0 pc := by unfold F_X6_chance_0_30; rw [h]; rfl
theorem F_X6_chance_0_30_r {pc : Nat} (h : Nat.blt pc 16 = false) : F_X6_chance_0_30 pc = F_X6_chance_16 pc := by unfold F_X6_chance_0_30; rw [h]; rfl
theorem F_X6_chance_0_30_ok : jOK Y_X6_chance none (F_X6_chance_0_30) := jOK_node (F_X6_chance_0_ok) (F_X6_chance_16_ok)
def F_X6_chance_32 : Nat → jT := fun pc => (bif Nat.blt pc 40 then (bif Nat.blt pc 34 then (bif Nat.blt pc 33 then (bif Nat.beq pc 32 then J_iconst 1 33 else jbad) else (bif Nat.beq pc 33 then J_aload 0 34 else jbad)) else (bif Nat.blt pc 37 then (bif Nat.beq pc 34 then J_getfield 6 1 37 else jbad) else (bif Nat.beq pc 37 then J_getfield 3 2 40 else jbad))) else (bif Nat.blt pc 44 then (bif Nat.blt pc 41 then (bif Nat.beq pc 40 then J_ishl 41 else jbad) else (bif Nat.beq pc 41 then J_icge 125 44 else jbad)) else (bif Nat.blt pc 45 then (bif Nat.beq pc 44 then J_aload 0 45 else jbad) else (bif Nat.blt pc 48 then (bif Nat.beq pc 45 then J_getfield 6 4 48 else jbad) else (bif Nat.beq pc 48 then J_aload 0 49 else jbad)))))
theorem ftl_X6_chance_32 : F_X6_chance_32 32 = J_iconst 1 33 := rfl
theorem ftl_X6_chance_33 : F_X6_chance_32 33 = J_aload 0 34 := rfl
theorem ftl_X6_chance_34 : F_X6_chance_32 34 = J_getfield 6 1 37 := rfl
theorem ftl_X6_chance_37 : F_X6_chance_32 37 = J_getfield 3 2 40 := rfl
theorem ftl_X6_chance_40 : F_X6_chance_32 40 = J_ishl 41 := rfl
theorem ftl_X6_chance_41 : F_X6_chance_32 41 = J_icge 125 44 := rfl
theorem ftl_X6_chance_44 : F_X6_chance_32 44 = J_aload 0 45 := rfl
theorem ftl_X6_chance_45 : F_X6_chance_32 45 = J_getfield 6 4 48 := rfl
theorem ftl_X6_chance_48 : F_X6_chance_32 48 = J_aload 0 49 := rfl
theorem F_X6_chance_32_ok : jOK Y_X6_chance none (F_X6_chance_32) := (jOK_node (jOK_node (jOK_node (jOK_leaf (sn_iconst dX6_chance_32 rfl rfl)) (jOK_leaf (sn_aload_n dX6_chance_33 rfl rfl))) (jOK_node (jOK_leaf (sn_getfield dX6_chance_34 rfl rfl (by decide) tw_167 jin6)) (jOK_leaf (sn_getfield dX6_chance_37 rfl rfl (by decide) tw_45 jin3)))) (jOK_node (jOK_node (jOK_leaf (sn_ishl dX6_chance_40 rfl)) (jOK_leaf (sn_icge dX6_chance_41 rfl rfl))) (jOK_node (jOK_leaf (sn_aload_n dX6_chance_44 rfl rfl)) (jOK_node (jOK_leaf (sn_getfield dX6_chance_45 rfl rfl (by decide) tw_170 jin6)) (jOK_leaf (sn_aload_n dX6_chance_48 rfl rfl))))))
def F_X6_chance_49 : Nat → jT := fun pc => (bif Nat.blt pc 59 then (bif Nat.blt pc 55 then (bif Nat.blt pc 52 then (bif Nat.beq pc 49 then J_getfield 6 3 52 else jbad) else (bif Nat.beq pc 52 then J_callV 4 S_X4_take 1 55 else jbad)) else (bif Nat.blt pc 56 then (bif Nat.beq pc 55 then J_aload 0 56 else jbad) else (bif Nat.beq pc 56 then J_getfield 6 2 59 else jbad))) else (bif Nat.blt pc 63 then (bif Nat.blt pc 60 then (bif Nat.beq pc 59 then J_aload 0 60 else jbad) else (bif Nat.beq pc 60 then J_getfield 6 4 63 else jbad)) else (bif Nat.blt pc 64 then (bif Nat.beq pc 63 then J_iload 1 64 else jbad) else (bif Nat.blt pc 66 then (bif Nat.beq pc 64 then J_iload 5 66 else jbad) else (bif Nat.beq pc 66 then J_iconst 15 68 else jbad)))))
theorem ftl_X6_chance_49 : F_X6_chance_49 49 = J_getfield 6 3 52 := rfl
theorem ftl_X6_chance_52 : F_X6_chance_49 52 = J_callV 4 S_X4_take 1 55 := rfl
theorem ftl_X6_chance_55 : F_X6_chance_49 55 = J_aload 0 56 := rfl
theorem ftl_X6_chance_56 : F_X6_chance_49 56 = J_getfield 6 2 59 := rfl
theorem ftl_X6_chance_59 : F_X6_chance_49 59 = J_aload 0 60 := rfl
theorem ftl_X6_chance_60 : F_X6_chance_49 60 = J_getfield 6 4 63 := rfl
theorem ftl_X6_chance_63 : F_X6_chance_49 63 = J_iload 1 64 := rfl
theorem ftl_X6_chance_64 : F_X6_chance_49 64 = J_iload 5 66 := rfl
theorem ftl_X6_chance_66 : F_X6_chance_49 66 = J_iconst 15 68 := rfl
theorem F_X6_chance_49_ok : jOK Y_X6_chance none (F_X6_chance_49) := (jOK_node (jOK_node (jOK_node (jOK_leaf (sn_getfield dX6_chance_49 rfl rfl (by decide) tw_169 jin6)) (jOK_leaf (sn_callV (Y' := Y_X4_take) ok_X4_take dX6_chance_52 rfl rfl rfl tw_331 tw_332 tw_333 tw_5 jc_X4_take rfl ⟨by decide, by decide, rfl⟩ ⟨by decide, by decide⟩))) (jOK_node (jOK_leaf (sn_aload_n dX6_chance_55 rfl rfl)) (jOK_leaf (sn_getfield dX6_chance_56 rfl rfl (by decide) tw_168 jin6)))) (jOK_node (jOK_node (jOK_leaf (sn_aload_n dX6_chance_59 rfl rfl)) (jOK_leaf (sn_getfield dX6_chance_60 rfl rfl (by decide) tw_170 jin6))) (jOK_node (jOK_leaf (sn_iload_n dX6_chance_63 rfl rfl)) (jOK_node (jOK_leaf (sn_iload dX6_chance_64 rfl)) (jOK_leaf (sn_bipush dX6_chance_66 rfl rfl))))))
def F_X6_chance_32_66 : Nat → jT := fun pc => bif Nat.blt pc 49 then F_X6_chance_32 pc else F_X6_chance_49 pc
theorem F_X6_chance_32_66_l {pc : Nat} (h : Nat.blt pc 49 = true) : F_X6_chance_32_66 pc = F_X6_chance_32 pc := by unfold F_X6_chance_32_66; rw [h]; rfl
theorem F_X6_chance_32_66_r {pc : Nat} (h : Nat.blt pc 49 = false) : F_X6_chance_32_66 pc = F_X6_chance_49 pc := by unfold F_X6_chance_32_66; rw [h]; rfl
theorem F_X6_chance_32_66_ok : jOK Y_X6_chance none (F_X6_chance_32_66) := jOK_node (F_X6_chance_32_ok) (F_X6_chance_49_ok)
def F_X6_chance_0_66 : Nat → jT := fun pc => bif Nat.blt pc 32 then F_X6_chance_0_30 pc else F_X6_chance_32_66 pc
theorem F_X6_chance_0_66_l {pc : Nat} (h : Nat.blt pc 32 = true) : F_X6_chance_0_66 pc = F_X6_chance_0_30 pc := by unfold F_X6_chance_0_66; rw [h]; rfl
theorem F_X6_chance_0_66_r {pc : Nat} (h : Nat.blt pc 32 = false) : F_X6_chance_0_66 pc = F_X6_chance_32_66 pc := by unfold F_X6_chance_0_66; rw [h]; rfl
theorem F_X6_chance_0_66_ok : jOK Y_X6_chance none (F_X6_chance_0_66) := jOK_node (F_X6_chance_0_30_ok) (F_X6_chance_32_66_ok)
def F_X6_chance_68 : Nat → jT := fun pc => (bif Nat.blt pc 76 then (bif Nat.blt pc 72 then (bif Nat.blt pc 69 then (bif Nat.beq pc 68 then J_iconst (-1) 69 else jbad) else (bif Nat.beq pc 69 then J_callV 0 S_X0_pass 5 72 else jbad)) else (bif Nat.blt pc 73 then (bif Nat.beq pc 72 then J_aload 0 73 else jbad) else (bif Nat.beq pc 73 then J_getfield 6 4 76 else jbad))) else (bif Nat.blt pc 80 then (bif Nat.blt pc 77 then (bif Nat.beq pc 76 then J_iconst 4 77 else jbad) else (bif Nat.beq pc 77 then J_callV 4 S_X4_postsIn 1 80 else jbad)) else (bif Nat.blt pc 83 then (bif Nat.beq pc 80 then J_ifne 119 83 else jbad) else (bif Nat.blt pc 85 then (bif Nat.beq pc 83 then J_iload 5 85 else jbad) else (bif Nat.beq pc 85 then J_callS S_J6_bitCount_0f7a4 1 88 else jbad)))))
theorem ftl_X6_chance_68 : F_X6_chance_68 68 = J_iconst (-1) 69 := rfl
theorem ftl_X6_chance_69 : F_X6_chance_68 69 = J_callV 0 S_X0_pass 5 72 := rfl
theorem ftl_X6_chance_72 : F_X6_chance_68 72 = J_aload 0 73 := rfl
theorem ftl_X6_chance_73 : F_X6_chance_68 73 = J_getfield 6 4 76 := rfl
theorem ftl_X6_chance_76 : F_X6_chance_68 76 = J_iconst 4 77 := rfl
theorem ftl_X6_chance_77 : F_X6_chance_68 77 = J_callV 4 S_X4_postsIn 1 80 := rfl
theorem ftl_X6_chance_80 : F_X6_chance_68 80 = J_ifne 119 83 := rfl
theorem ftl_X6_chance_83 : F_X6_chance_68 83 = J_iload 5 85 := rfl
theorem ftl_X6_chance_85 : F_X6_chance_68 85 = J_callS S_J6_bitCount_0f7a4 1 88 := rfl
theorem F_X6_chance_68_ok : jOK Y_X6_chance none (F_X6_chance_68) := (jOK_node (jOK_node (jOK_node (jOK_leaf (sn_iconst dX6_chance_68 rfl rfl)) (jOK_leaf (sn_callV (Y' := Y_X0_pass) ok_X0_pass dX6_chance_69 rfl rfl rfl tw_483 tw_343 tw_344 tw_4 jc_X0_pass rfl ⟨by decide, by decide, rfl⟩ ⟨by decide, by decide⟩))) (jOK_node (jOK_leaf (sn_aload_n dX6_chance_72 rfl rfl)) (jOK_leaf (sn_getfield dX6_chance_73 rfl rfl (by decide) tw_170 jin6)))) (jOK_node (jOK_node (jOK_leaf (sn_iconst dX6_chance_76 rfl rfl)) (jOK_leaf (sn_callV (Y' := Y_X4_postsIn) ok_X4_postsIn dX6_chance_77 rfl rfl rfl tw_262 tw_263 tw_264 tw_5 jc_X4_postsIn rfl ⟨by decide, by decide, rfl⟩ ⟨by decide, by decide⟩))) (jOK_node (jOK_leaf (sn_ifne dX6_chance_80 rfl rfl)) (jOK_node (jOK_leaf (sn_iload dX6_chance_83 rfl)) (jOK_leaf (sn_callS (Y' := Y_J6_bitCount_0f7a4) ok_J6_bitCount_0f7a4 dX6_chance_85 rfl rfl tw_560 tw_458 tw_11 jc_J6_bitCount_0f7a4 ⟨by decide, by decide, rfl⟩ ⟨by decide, by decide⟩))))))
def F_X6_chance_88 : Nat → jT := fun pc => (bif Nat.blt pc 95 then (bif Nat.blt pc 92 then (bif Nat.blt pc 90 then (bif Nat.beq pc 88 then J_istore 6 90 else jbad) else (bif Nat.beq pc 90 then J_iload 4 92 else jbad)) else (bif Nat.blt pc 93 then (bif Nat.beq pc 92 then J_iload 2 93 else jbad) else (bif Nat.beq pc 93 then J_iload 6 95 else jbad))) else (bif Nat.blt pc 100 then (bif Nat.blt pc 98 then (bif Nat.beq pc 95 then J_callS S_X6_power 2 98 else jbad) else (bif Nat.beq pc 98 then J_iconst 10 100 else jbad)) else (bif Nat.blt pc 101 then (bif Nat.beq pc 100 then J_iload 2 101 else jbad) else (bif Nat.blt pc 102 then (bif Nat.beq pc 101 then J_isub 102 else jbad) else (bif Nat.beq pc 102 then J_aload 0 103 else jbad)))))
theorem ftl_X6_chance_88 : F_X6_chance_88 88 = J_istore 6 90 := rfl
theorem ftl_X6_chance_90 : F_X6_chance_88 90 = J_iload 4 92 := rfl
theorem ftl_X6_chance_92 : F_X6_chance_88 92 = J_iload 2 93 := rfl
theorem ftl_X6_chance_93 : F_X6_chance_88 93 = J_iload 6 95 := rfl
theorem ftl_X6_chance_95 : F_X6_chance_88 95 = J_callS S_X6_power 2 98 := rfl
theorem ftl_X6_chance_98 : F_X6_chance_88 98 = J_iconst 10 100 := rfl
theorem ftl_X6_chance_100 : F_X6_chance_88 100 = J_iload 2 101 := rfl
theorem ftl_X6_chance_101 : F_X6_chance_88 101 = J_isub 102 := rfl
theorem ftl_X6_chance_102 : F_X6_chance_88 102 = J_aload 0 103 := rfl
theorem F_X6_chance_88_ok : jOK Y_X6_chance none (F_X6_chance_88) := (jOK_node (jOK_node (jOK_node (jOK_leaf (sn_istore dX6_chance_88 rfl (by decide))) (jOK_leaf (sn_iload dX6_chance_90 rfl))) (jOK_node (jOK_leaf (sn_iload_n dX6_chance_92 rfl rfl)) (jOK_leaf (sn_iload dX6_chance_93 rfl)))) (jOK_node (jOK_node (jOK_leaf (sn_callS (Y' := Y_X6_power) ok_X6_power dX6_chance_95 rfl rfl tw_505 tw_506 tw_1 jc_X6_power ⟨by decide, by decide, rfl⟩ ⟨by decide, by decide⟩)) (jOK_leaf (sn_bipush dX6_chance_98 rfl rfl))) (jOK_node (jOK_leaf (sn_iload_n dX6_chance_100 rfl rfl)) (jOK_node (jOK_leaf (sn_isub dX6_chance_101 rfl)) (jOK_leaf (sn_aload_n dX6_chance_102 rfl rfl))))))
def F_X6_chance_68_102 : Nat → jT := fun pc => bif Nat.blt pc 88 then F_X6_chance_68 pc else F_X6_chance_88 pc
theorem F_X6_chance_68_102_l {pc : Nat} (h : Nat.blt pc 88 = true) : F_X6_chance_68_102 pc = F_X6_chance_68 pc := by unfold F_X6_chance_68_102; rw [h]; rfl
theorem F_X6_chance_68_102_r {pc : Nat} (h : Nat.blt pc 88 = false) : F_X6_chance_68_102 pc = F_X6_chance_88 pc := by unfold F_X6_chance_68_102; rw [h]; rfl
theorem F_X6_chance_68_102_ok : jOK Y_X6_chance none (F_X6_chance_68_102) := jOK_node (F_X6_chance_68_ok) (F_X6_chance_88_ok)
def F_X6_chance_103 : Nat → jT := fun pc => (bif Nat.blt pc 112 then (bif Nat.blt pc 109 then (bif Nat.blt pc 106 then (bif Nat.beq pc 103 then J_getfield 6 1 106 else jbad) else (bif Nat.beq pc 106 then J_getfield 3 2 109 else jbad)) else (bif Nat.blt pc 111 then (bif Nat.beq pc 109 then J_iload 6 111 else jbad) else (bif Nat.beq pc 111 then J_isub 112 else jbad))) else (bif Nat.blt pc 116 then (bif Nat.blt pc 115 then (bif Nat.beq pc 112 then J_callS S_X6_power 2 115 else jbad) else (bif Nat.beq pc 115 then J_imul 116 else jbad)) else (bif Nat.blt pc 117 then (bif Nat.beq pc 116 then J_iadd 117 else jbad) else (bif Nat.blt pc 119 then (bif Nat.beq pc 117 then J_istore 4 119 else jbad) else (bif Nat.beq pc 119 then J_iinc 5 1 122 else jbad)))))
theorem ftl_X6_chance_103 : F_X6_chance_103 103 = J_getfield 6 1 106 := rfl
theorem ftl_X6_chance_106 : F_X6_chance_103 106 = J_getfield 3 2 109 := rfl
theorem ftl_X6_chance_109 : F_X6_chance_103 109 = J_iload 6 111 := rfl
theorem ftl_X6_chance_111 : F_X6_chance_103 111 = J_isub 112 := rfl
theorem ftl_X6_chance_112 : F_X6_chance_103 112 = J_callS S_X6_power 2 115 := rfl
theorem ftl_X6_chance_115 : F_X6_chance_103 115 = J_imul 116 := rfl
theorem ftl_X6_chance_116 : F_X6_chance_103 116 = J_iadd 117 := rfl
theorem ftl_X6_chance_117 : F_X6_chance_103 117 = J_istore 4 119 := rfl
theorem ftl_X6_chance_119 : F_X6_chance_103 119 = J_iinc 5 1 122 := rfl
theorem F_X6_chance_103_ok : jOK Y_X6_chance none (F_X6_chance_103) := (jOK_node (jOK_node (jOK_node (jOK_leaf (sn_getfield dX6_chance_103 rfl rfl (by decide) tw_167 jin6)) (jOK_leaf (sn_getfield dX6_chance_106 rfl rfl (by decide) tw_45 jin3))) (jOK_node (jOK_leaf (sn_iload dX6_chance_109 rfl)) (jOK_leaf (sn_isub dX6_chance_111 rfl)))) (jOK_node (jOK_node (jOK_leaf (sn_callS (Y' := Y_X6_power) ok_X6_power dX6_chance_112 rfl rfl tw_505 tw_506 tw_1 jc_X6_power ⟨by decide, by decide, rfl⟩ ⟨by decide, by decide⟩)) (jOK_leaf (sn_imul dX6_chance_115 rfl))) (jOK_node (jOK_leaf (sn_iadd dX6_chance_116 rfl)) (jOK_node (jOK_leaf (sn_istore dX6_chance_117 rfl (by decide))) (jOK_leaf (sn_iinc dX6_chance_119 rfl rfl (by decide)))))))
def F_X6_chance_122 : Nat → jT := fun pc => (bif Nat.blt pc 133 then (bif Nat.blt pc 127 then (bif Nat.blt pc 125 then (bif Nat.beq pc 122 then J_goto 30 else jbad) else (bif Nat.beq pc 125 then J_iload 4 127 else jbad)) else (bif Nat.blt pc 129 then (bif Nat.beq pc 127 then J_iconst 10 129 else jbad) else (bif Nat.blt pc 130 then (bif Nat.beq pc 129 then J_aload 0 130 else jbad) else (bif Nat.beq pc 130 then J_getfield 6 1 133 else jbad)))) else (bif Nat.blt pc 139 then (bif Nat.blt pc 136 then (bif Nat.beq pc 133 then J_getfield 3 2 136 else jbad) else (bif Nat.beq pc 136 then J_callS S_X6_power 2 139 else jbad)) else (bif Nat.blt pc 140 then (bif Nat.beq pc 139 then J_iload 3 140 else jbad) else (bif Nat.blt pc 143 then (bif Nat.beq pc 140 then J_callS S_X6_lowest 3 143 else jbad) else (bif Nat.beq pc 143 then J_ireturn 0 0 else jbad)))))
theorem ftl_X6_chance_122 : F_X6_chance_122 122 = J_goto 30 := rfl
theorem ftl_X6_chance_125 : F_X6_chance_122 125 = J_iload 4 127 := rfl
theorem ftl_X6_chance_127 : F_X6_chance_122 127 = J_iconst 10 129 := rfl
theorem ftl_X6_chance_129 : F_X6_chance_122 129 = J_aload 0 130 := rfl
theorem ftl_X6_chance_130 : F_X6_chance_122 130 = J_getfield 6 1 133 := rfl
theorem ftl_X6_chance_133 : F_X6_chance_122 133 = J_getfield 3 2 136 := rfl
theorem ftl_X6_chance_136 : F_X6_chance_122 136 = J_callS S_X6_power 2 139 := rfl
theorem ftl_X6_chance_139 : F_X6_chance_122 139 = J_iload 3 140 := rfl
theorem ftl_X6_chance_140 : F_X6_chance_122 140 = J_callS S_X6_lowest 3 143 := rfl
theorem ftl_X6_chance_143 : F_X6_chance_122 143 = J_ireturn 0 0 := rfl
theorem F_X6_chance_122_ok : jOK Y_X6_chance none (F_X6_chance_122) := (jOK_node (jOK_node (jOK_node (jOK_leaf (sn_goto dX6_chance_122 rfl)) (jOK_leaf (sn_iload dX6_chance_125 rfl))) (jOK_node (jOK_leaf (sn_bipush dX6_chance_127 rfl rfl)) (jOK_node (jOK_leaf (sn_aload_n dX6_chance_129 rfl rfl)) (jOK_leaf (sn_getfield dX6_chance_130 rfl rfl (by decide) tw_167 jin6))))) (jOK_node (jOK_node (jOK_leaf (sn_getfield dX6_chance_133 rfl rfl (by decide) tw_45 jin3)) (jOK_leaf (sn_callS (Y' := Y_X6_power) ok_X6_power dX6_chance_136 rfl rfl tw_505 tw_506 tw_1 jc_X6_power ⟨by decide, by decide, rfl⟩ ⟨by decide, by decide⟩))) (jOK_node (jOK_leaf (sn_iload_n dX6_chance_139 rfl rfl)) (jOK_node (jOK_leaf (sn_callS (Y' := Y_X6_lowest) ok_X6_lowest dX6_chance_140 rfl rfl tw_569 tw_570 tw_1 jc_X6_lowest ⟨by decide, by decide, rfl⟩ ⟨by decide, by decide⟩)) (jOK_leaf (sn_ireturn dX6_chance_143 rfl rfl))))))
def F_X6_chance_103_143 : Nat → jT := fun pc => bif Nat.blt pc 122 then F_X6_chance_103 pc else F_X6_chance_122 pc
theorem F_X6_chance_103_143_l {pc : Nat} (h : Nat.blt pc 122 = true) : F_X6_chance_103_143 pc = F_X6_chance_103 pc := by unfold F_X6_chance_103_143; rw [h]; rfl
theorem F_X6_chance_103_143_r {pc : Nat} (h : Nat.blt pc 122 = false) : F_X6_chance_103_143 pc = F_X6_chance_122 pc := by unfold F_X6_chance_103_143; rw [h]; rfl
theorem F_X6_chance_103_143_ok : jOK Y_X6_chance none (F_X6_chance_103_143) := jOK_node (F_X6_chance_103_ok) (F_X6_chance_122_ok)
def F_X6_chance_68_143 : Nat → jT := fun pc => bif Nat.blt pc 103 then F_X6_chance_68_102 pc else F_X6_chance_103_143 pc
theorem F_X6_chance_68_143_l {pc : Nat} (h : Nat.blt pc 103 = true) : F_X6_chance_68_143 pc = F_X6_chance_68_102 pc := by unfold F_X6_chance_68_143; rw [h]; rfl
theorem F_X6_chance_68_143_r {pc : Nat} (h : Nat.blt pc 103 = false) : F_X6_chance_68_143 pc = F_X6_chance_103_143 pc := by unfold F_X6_chance_68_143; rw [h]; rfl
theorem F_X6_chance_68_143_ok : jOK Y_X6_chance none (F_X6_chance_68_143) := jOK_node (F_X6_chance_68_102_ok) (F_X6_chance_103_143_ok)
def F_X6_chance_0_143 : Nat → jT := fun pc => bif Nat.blt pc 68 then F_X6_chance_0_66 pc else F_X6_chance_68_143 pc
theorem F_X6_chance_0_143_l {pc : Nat} (h : Nat.blt pc 68 = true) : F_X6_chance_0_143 pc = F_X6_chance_0_66 pc := by unfold F_X6_chance_0_143; rw [h]; rfl
theorem F_X6_chance_0_143_r {pc : Nat} (h : Nat.blt pc 68 = false) : F_X6_chance_0_143 pc = F_X6_chance_68_143 pc := by unfold F_X6_chance_0_143; rw [h]; rfl
theorem F_X6_chance_0_143_ok : jOK Y_X6_chance none (F_X6_chance_0_143) := jOK_node (F_X6_chance_0_66_ok) (F_X6_chance_68_143_ok)
def F_X6_chance : Nat → jT := F_X6_chance_0_143
theorem OK_X6_chance : jOK Y_X6_chance none (F_X6_chance) := F_X6_chance_0_143_ok
theorem ft_X6_chance_0 : F_X6_chance 0 = J_iload 1 1 := (F_X6_chance_0_143_l rfl).trans ((F_X6_chance_0_66_l rfl).trans ((F_X6_chance_0_30_l rfl).trans (ftl_X6_chance_0)))
theorem ft_X6_chance_1 : F_X6_chance 1 = J_iconst 1 2 := (F_X6_chance_0_143_l rfl).trans ((F_X6_chance_0_66_l rfl).trans ((F_X6_chance_0_30_l rfl).trans (ftl_X6_chance_1)))
theorem ft_X6_chance_2 : F_X6_chance 2 = J_iclt 21 5 := (F_X6_chance_0_143_l rfl).trans ((F_X6_chance_0_66_l rfl).trans ((F_X6_chance_0_30_l rfl).trans (ftl_X6_chance_2)))
theorem ft_X6_chance_5 : F_X6_chance 5 = J_iload 1 6 := (F_X6_chance_0_143_l rfl).trans ((F_X6_chance_0_66_l rfl).trans ((F_X6_chance_0_30_l rfl).trans (ftl_X6_chance_5)))
theorem ft_X6_chance_6 : F_X6_chance 6 = J_iconst 9 8 := (F_X6_chance_0_143_l rfl).trans ((F_X6_chance_0_66_l rfl).trans ((F_X6_chance_0_30_l rfl).trans (ftl_X6_chance_6)))
theorem ft_X6_chance_8 : F_X6_chance 8 = J_icgt 21 11 := (F_X6_chance_0_143_l rfl).trans ((F_X6_chance_0_66_l rfl).trans ((F_X6_chance_0_30_l rfl).trans (ftl_X6_chance_8)))
theorem ft_X6_chance_11 : F_X6_chance 11 = J_iload 2 12 := (F_X6_chance_0_143_l rfl).trans ((F_X6_chance_0_66_l rfl).trans ((F_X6_chance_0_30_l rfl).trans (ftl_X6_chance_11)))
theorem ft_X6_chance_12 : F_X6_chance 12 = J_iflt 21 15 := (F_X6_chance_0_143_l rfl).trans ((F_X6_chance_0_66_l rfl).trans ((F_X6_chance_0_30_l rfl).trans (ftl_X6_chance_12)))
theorem ft_X6_chance_15 : F_X6_chance 15 = J_iload 2 16 := (F_X6_chance_0_143_l rfl).trans ((F_X6_chance_0_66_l rfl).trans ((F_X6_chance_0_30_l rfl).trans (ftl_X6_chance_15)))
theorem ft_X6_chance_16 : F_X6_chance 16 = J_iconst 10 18 := (F_X6_chance_0_143_l rfl).trans ((F_X6_chance_0_66_l rfl).trans ((F_X6_chance_0_30_r rfl).trans (ftl_X6_chance_16)))
theorem ft_X6_chance_18 : F_X6_chance 18 = J_icle 24 21 := (F_X6_chance_0_143_l rfl).trans ((F_X6_chance_0_66_l rfl).trans ((F_X6_chance_0_30_r rfl).trans (ftl_X6_chance_18)))
theorem ft_X6_chance_21 : F_X6_chance 21 = J_iconst (-2) 23 := (F_X6_chance_0_143_l rfl).trans ((F_X6_chance_0_66_l rfl).trans ((F_X6_chance_0_30_r rfl).trans (ftl_X6_chance_21)))
theorem ft_X6_chance_23 : F_X6_chance 23 = J_ireturn 0 0 := (F_X6_chance_0_143_l rfl).trans ((F_X6_chance_0_66_l rfl).trans ((F_X6_chance_0_30_r rfl).trans (ftl_X6_chance_23)))
theorem ft_X6_chance_24 : F_X6_chance 24 = J_iconst 0 25 := (F_X6_chance_0_143_l rfl).trans ((F_X6_chance_0_66_l rfl).trans ((F_X6_chance_0_30_r rfl).trans (ftl_X6_chance_24)))
theorem ft_X6_chance_25 : F_X6_chance 25 = J_istore 4 27 := (F_X6_chance_0_143_l rfl).trans ((F_X6_chance_0_66_l rfl).trans ((F_X6_chance_0_30_r rfl).trans (ftl_X6_chance_25)))
theorem ft_X6_chance_27 : F_X6_chance 27 = J_iconst 0 28 := (F_X6_chance_0_143_l rfl).trans ((F_X6_chance_0_66_l rfl).trans ((F_X6_chance_0_30_r rfl).trans (ftl_X6_chance_27)))
theorem ft_X6_chance_28 : F_X6_chance 28 = J_istore 5 30 := (F_X6_chance_0_143_l rfl).trans ((F_X6_chance_0_66_l rfl).trans ((F_X6_chance_0_30_r rfl).trans (ftl_X6_chance_28)))
theorem ft_X6_chance_30 : F_X6_chance 30 = J_iload 5 32 := (F_X6_chance_0_143_l rfl).trans ((F_X6_chance_0_66_l rfl).trans ((F_X6_chance_0_30_r rfl).trans (ftl_X6_chance_30)))
theorem ft_X6_chance_32 : F_X6_chance 32 = J_iconst 1 33 := (F_X6_chance_0_143_l rfl).trans ((F_X6_chance_0_66_r rfl).trans ((F_X6_chance_32_66_l rfl).trans (ftl_X6_chance_32)))
theorem ft_X6_chance_33 : F_X6_chance 33 = J_aload 0 34 := (F_X6_chance_0_143_l rfl).trans ((F_X6_chance_0_66_r rfl).trans ((F_X6_chance_32_66_l rfl).trans (ftl_X6_chance_33)))
theorem ft_X6_chance_34 : F_X6_chance 34 = J_getfield 6 1 37 := (F_X6_chance_0_143_l rfl).trans ((F_X6_chance_0_66_r rfl).trans ((F_X6_chance_32_66_l rfl).trans (ftl_X6_chance_34)))
theorem ft_X6_chance_37 : F_X6_chance 37 = J_getfield 3 2 40 := (F_X6_chance_0_143_l rfl).trans ((F_X6_chance_0_66_r rfl).trans ((F_X6_chance_32_66_l rfl).trans (ftl_X6_chance_37)))
theorem ft_X6_chance_40 : F_X6_chance 40 = J_ishl 41 := (F_X6_chance_0_143_l rfl).trans ((F_X6_chance_0_66_r rfl).trans ((F_X6_chance_32_66_l rfl).trans (ftl_X6_chance_40)))
theorem ft_X6_chance_41 : F_X6_chance 41 = J_icge 125 44 := (F_X6_chance_0_143_l rfl).trans ((F_X6_chance_0_66_r rfl).trans ((F_X6_chance_32_66_l rfl).trans (ftl_X6_chance_41)))
theorem ft_X6_chance_44 : F_X6_chance 44 = J_aload 0 45 := (F_X6_chance_0_143_l rfl).trans ((F_X6_chance_0_66_r rfl).trans ((F_X6_chance_32_66_l rfl).trans (ftl_X6_chance_44)))
theorem ft_X6_chance_45 : F_X6_chance 45 = J_getfield 6 4 48 := (F_X6_chance_0_143_l rfl).trans ((F_X6_chance_0_66_r rfl).trans ((F_X6_chance_32_66_l rfl).trans (ftl_X6_chance_45)))
theorem ft_X6_chance_48 : F_X6_chance 48 = J_aload 0 49 := (F_X6_chance_0_143_l rfl).trans ((F_X6_chance_0_66_r rfl).trans ((F_X6_chance_32_66_l rfl).trans (ftl_X6_chance_48)))
theorem ft_X6_chance_49 : F_X6_chance 49 = J_getfield 6 3 52 := (F_X6_chance_0_143_l rfl).trans ((F_X6_chance_0_66_r rfl).trans ((F_X6_chance_32_66_r rfl).trans (ftl_X6_chance_49)))
theorem ft_X6_chance_52 : F_X6_chance 52 = J_callV 4 S_X4_take 1 55 := (F_X6_chance_0_143_l rfl).trans ((F_X6_chance_0_66_r rfl).trans ((F_X6_chance_32_66_r rfl).trans (ftl_X6_chance_52)))
theorem ft_X6_chance_55 : F_X6_chance 55 = J_aload 0 56 := (F_X6_chance_0_143_l rfl).trans ((F_X6_chance_0_66_r rfl).trans ((F_X6_chance_32_66_r rfl).trans (ftl_X6_chance_55)))
theorem ft_X6_chance_56 : F_X6_chance 56 = J_getfield 6 2 59 := (F_X6_chance_0_143_l rfl).trans ((F_X6_chance_0_66_r rfl).trans ((F_X6_chance_32_66_r rfl).trans (ftl_X6_chance_56)))
theorem ft_X6_chance_59 : F_X6_chance 59 = J_aload 0 60 := (F_X6_chance_0_143_l rfl).trans ((F_X6_chance_0_66_r rfl).trans ((F_X6_chance_32_66_r rfl).trans (ftl_X6_chance_59)))
theorem ft_X6_chance_60 : F_X6_chance 60 = J_getfield 6 4 63 := (F_X6_chance_0_143_l rfl).trans ((F_X6_chance_0_66_r rfl).trans ((F_X6_chance_32_66_r rfl).trans (ftl_X6_chance_60)))
theorem ft_X6_chance_63 : F_X6_chance 63 = J_iload 1 64 := (F_X6_chance_0_143_l rfl).trans ((F_X6_chance_0_66_r rfl).trans ((F_X6_chance_32_66_r rfl).trans (ftl_X6_chance_63)))
theorem ft_X6_chance_64 : F_X6_chance 64 = J_iload 5 66 := (F_X6_chance_0_143_l rfl).trans ((F_X6_chance_0_66_r rfl).trans ((F_X6_chance_32_66_r rfl).trans (ftl_X6_chance_64)))
theorem ft_X6_chance_66 : F_X6_chance 66 = J_iconst 15 68 := (F_X6_chance_0_143_l rfl).trans ((F_X6_chance_0_66_r rfl).trans ((F_X6_chance_32_66_r rfl).trans (ftl_X6_chance_66)))
theorem ft_X6_chance_68 : F_X6_chance 68 = J_iconst (-1) 69 := (F_X6_chance_0_143_r rfl).trans ((F_X6_chance_68_143_l rfl).trans ((F_X6_chance_68_102_l rfl).trans (ftl_X6_chance_68)))
theorem ft_X6_chance_69 : F_X6_chance 69 = J_callV 0 S_X0_pass 5 72 := (F_X6_chance_0_143_r rfl).trans ((F_X6_chance_68_143_l rfl).trans ((F_X6_chance_68_102_l rfl).trans (ftl_X6_chance_69)))
theorem ft_X6_chance_72 : F_X6_chance 72 = J_aload 0 73 := (F_X6_chance_0_143_r rfl).trans ((F_X6_chance_68_143_l rfl).trans ((F_X6_chance_68_102_l rfl).trans (ftl_X6_chance_72)))
theorem ft_X6_chance_73 : F_X6_chance 73 = J_getfield 6 4 76 := (F_X6_chance_0_143_r rfl).trans ((F_X6_chance_68_143_l rfl).trans ((F_X6_chance_68_102_l rfl).trans (ftl_X6_chance_73)))
theorem ft_X6_chance_76 : F_X6_chance 76 = J_iconst 4 77 := (F_X6_chance_0_143_r rfl).trans ((F_X6_chance_68_143_l rfl).trans ((F_X6_chance_68_102_l rfl).trans (ftl_X6_chance_76)))
theorem ft_X6_chance_77 : F_X6_chance 77 = J_callV 4 S_X4_postsIn 1 80 := (F_X6_chance_0_143_r rfl).trans ((F_X6_chance_68_143_l rfl).trans ((F_X6_chance_68_102_l rfl).trans (ftl_X6_chance_77)))
theorem ft_X6_chance_80 : F_X6_chance 80 = J_ifne 119 83 := (F_X6_chance_0_143_r rfl).trans ((F_X6_chance_68_143_l rfl).trans ((F_X6_chance_68_102_l rfl).trans (ftl_X6_chance_80)))
theorem ft_X6_chance_83 : F_X6_chance 83 = J_iload 5 85 := (F_X6_chance_0_143_r rfl).trans ((F_X6_chance_68_143_l rfl).trans ((F_X6_chance_68_102_l rfl).trans (ftl_X6_chance_83)))
theorem ft_X6_chance_85 : F_X6_chance 85 = J_callS S_J6_bitCount_0f7a4 1 88 := (F_X6_chance_0_143_r rfl).trans ((F_X6_chance_68_143_l rfl).trans ((F_X6_chance_68_102_l rfl).trans (ftl_X6_chance_85)))
theorem ft_X6_chance_88 : F_X6_chance 88 = J_istore 6 90 := (F_X6_chance_0_143_r rfl).trans ((F_X6_chance_68_143_l rfl).trans ((F_X6_chance_68_102_r rfl).trans (ftl_X6_chance_88)))
theorem ft_X6_chance_90 : F_X6_chance 90 = J_iload 4 92 := (F_X6_chance_0_143_r rfl).trans ((F_X6_chance_68_143_l rfl).trans ((F_X6_chance_68_102_r rfl).trans (ftl_X6_chance_90)))
theorem ft_X6_chance_92 : F_X6_chance 92 = J_iload 2 93 := (F_X6_chance_0_143_r rfl).trans ((F_X6_chance_68_143_l rfl).trans ((F_X6_chance_68_102_r rfl).trans (ftl_X6_chance_92)))
theorem ft_X6_chance_93 : F_X6_chance 93 = J_iload 6 95 := (F_X6_chance_0_143_r rfl).trans ((F_X6_chance_68_143_l rfl).trans ((F_X6_chance_68_102_r rfl).trans (ftl_X6_chance_93)))
theorem ft_X6_chance_95 : F_X6_chance 95 = J_callS S_X6_power 2 98 := (F_X6_chance_0_143_r rfl).trans ((F_X6_chance_68_143_l rfl).trans ((F_X6_chance_68_102_r rfl).trans (ftl_X6_chance_95)))
theorem ft_X6_chance_98 : F_X6_chance 98 = J_iconst 10 100 := (F_X6_chance_0_143_r rfl).trans ((F_X6_chance_68_143_l rfl).trans ((F_X6_chance_68_102_r rfl).trans (ftl_X6_chance_98)))
theorem ft_X6_chance_100 : F_X6_chance 100 = J_iload 2 101 := (F_X6_chance_0_143_r rfl).trans ((F_X6_chance_68_143_l rfl).trans ((F_X6_chance_68_102_r rfl).trans (ftl_X6_chance_100)))
theorem ft_X6_chance_101 : F_X6_chance 101 = J_isub 102 := (F_X6_chance_0_143_r rfl).trans ((F_X6_chance_68_143_l rfl).trans ((F_X6_chance_68_102_r rfl).trans (ftl_X6_chance_101)))
theorem ft_X6_chance_102 : F_X6_chance 102 = J_aload 0 103 := (F_X6_chance_0_143_r rfl).trans ((F_X6_chance_68_143_l rfl).trans ((F_X6_chance_68_102_r rfl).trans (ftl_X6_chance_102)))
theorem ft_X6_chance_103 : F_X6_chance 103 = J_getfield 6 1 106 := (F_X6_chance_0_143_r rfl).trans ((F_X6_chance_68_143_r rfl).trans ((F_X6_chance_103_143_l rfl).trans (ftl_X6_chance_103)))
theorem ft_X6_chance_106 : F_X6_chance 106 = J_getfield 3 2 109 := (F_X6_chance_0_143_r rfl).trans ((F_X6_chance_68_143_r rfl).trans ((F_X6_chance_103_143_l rfl).trans (ftl_X6_chance_106)))
theorem ft_X6_chance_109 : F_X6_chance 109 = J_iload 6 111 := (F_X6_chance_0_143_r rfl).trans ((F_X6_chance_68_143_r rfl).trans ((F_X6_chance_103_143_l rfl).trans (ftl_X6_chance_109)))
theorem ft_X6_chance_111 : F_X6_chance 111 = J_isub 112 := (F_X6_chance_0_143_r rfl).trans ((F_X6_chance_68_143_r rfl).trans ((F_X6_chance_103_143_l rfl).trans (ftl_X6_chance_111)))
theorem ft_X6_chance_112 : F_X6_chance 112 = J_callS S_X6_power 2 115 := (F_X6_chance_0_143_r rfl).trans ((F_X6_chance_68_143_r rfl).trans ((F_X6_chance_103_143_l rfl).trans (ftl_X6_chance_112)))
theorem ft_X6_chance_115 : F_X6_chance 115 = J_imul 116 := (F_X6_chance_0_143_r rfl).trans ((F_X6_chance_68_143_r rfl).trans ((F_X6_chance_103_143_l rfl).trans (ftl_X6_chance_115)))
theorem ft_X6_chance_116 : F_X6_chance 116 = J_iadd 117 := (F_X6_chance_0_143_r rfl).trans ((F_X6_chance_68_143_r rfl).trans ((F_X6_chance_103_143_l rfl).trans (ftl_X6_chance_116)))
theorem ft_X6_chance_117 : F_X6_chance 117 = J_istore 4 119 := (F_X6_chance_0_143_r rfl).trans ((F_X6_chance_68_143_r rfl).trans ((F_X6_chance_103_143_l rfl).trans (ftl_X6_chance_117)))
theorem ft_X6_chance_119 : F_X6_chance 119 = J_iinc 5 1 122 := (F_X6_chance_0_143_r rfl).trans ((F_X6_chance_68_143_r rfl).trans ((F_X6_chance_103_143_l rfl).trans (ftl_X6_chance_119)))
theorem ft_X6_chance_122 : F_X6_chance 122 = J_goto 30 := (F_X6_chance_0_143_r rfl).trans ((F_X6_chance_68_143_r rfl).trans ((F_X6_chance_103_143_r rfl).trans (ftl_X6_chance_122)))
theorem ft_X6_chance_125 : F_X6_chance 125 = J_iload 4 127 := (F_X6_chance_0_143_r rfl).trans ((F_X6_chance_68_143_r rfl).trans ((F_X6_chance_103_143_r rfl).trans (ftl_X6_chance_125)))
theorem ft_X6_chance_127 : F_X6_chance 127 = J_iconst 10 129 := (F_X6_chance_0_143_r rfl).trans ((F_X6_chance_68_143_r rfl).trans ((F_X6_chance_103_143_r rfl).trans (ftl_X6_chance_127)))
theorem ft_X6_chance_129 : F_X6_chance 129 = J_aload 0 130 := (F_X6_chance_0_143_r rfl).trans ((F_X6_chance_68_143_r rfl).trans ((F_X6_chance_103_143_r rfl).trans (ftl_X6_chance_129)))
theorem ft_X6_chance_130 : F_X6_chance 130 = J_getfield 6 1 133 := (F_X6_chance_0_143_r rfl).trans ((F_X6_chance_68_143_r rfl).trans ((F_X6_chance_103_143_r rfl).trans (ftl_X6_chance_130)))
theorem ft_X6_chance_133 : F_X6_chance 133 = J_getfield 3 2 136 := (F_X6_chance_0_143_r rfl).trans ((F_X6_chance_68_143_r rfl).trans ((F_X6_chance_103_143_r rfl).trans (ftl_X6_chance_133)))
theorem ft_X6_chance_136 : F_X6_chance 136 = J_callS S_X6_power 2 139 := (F_X6_chance_0_143_r rfl).trans ((F_X6_chance_68_143_r rfl).trans ((F_X6_chance_103_143_r rfl).trans (ftl_X6_chance_136)))
theorem ft_X6_chance_139 : F_X6_chance 139 = J_iload 3 140 := (F_X6_chance_0_143_r rfl).trans ((F_X6_chance_68_143_r rfl).trans ((F_X6_chance_103_143_r rfl).trans (ftl_X6_chance_139)))
theorem ft_X6_chance_140 : F_X6_chance 140 = J_callS S_X6_lowest 3 143 := (F_X6_chance_0_143_r rfl).trans ((F_X6_chance_68_143_r rfl).trans ((F_X6_chance_103_143_r rfl).trans (ftl_X6_chance_140)))
theorem ft_X6_chance_143 : F_X6_chance 143 = J_ireturn 0 0 := (F_X6_chance_0_143_r rfl).trans ((F_X6_chance_68_143_r rfl).trans ((F_X6_chance_103_143_r rfl).trans (ftl_X6_chance_143)))
theorem lp_X6_chance {Q : jQ} {C : Nat → Nat → Int32} {z : Nat → Int64} {nb P n : Nat} {x u : Int32} (r : RC C P) (hn : n ≤ 9) :
    ∀ k j, j + k = 2 ^ P → ∀ o : Option Value, ∀ C1, Hv C C1 → (∀ C', Hv C C' → Q (some (.int (lowF (chS C P n x (2 ^ P)) (powF 10 P) u))) (memS 94 C' z)) → Rn Y_X6_chance none Q 30 [some (.ref 0), some (.int (nI n)), some (.int x), some (.int u), some (.int (chS C P n x j)), some (.int (nI j)), o] [] (memS 94 C1 z) (nb, 0, 0) := by
  have h16 := p2_lt r.h4
  intro k
  induction k with
  | zero =>
    intro j hj o C1 v h
    have hc : (nI (2 ^ P) ≤ nI j) = True := eq_true (nI_le (by omega) (by omega))
    refine jrun_first OK_X6_chance (C := [30]) 60 ?_
    simp -implicitDefEqProofs only [jr_0, jr_1, jr_2, j_iconst, j_lconst, j_iload0, j_aload0, j_istore0, j_astore0, j_iinc0, j_iload1, j_aload1, j_istore1, j_astore1, j_iinc1, j_iload2, j_aload2, j_istore2, j_astore2, j_iinc2, j_iload3, j_aload3, j_istore3, j_astore3, j_iinc3, j_iload4, j_aload4, j_istore4, j_astore4, j_iinc4, j_iload5, j_aload5, j_istore5, j_astore5, j_iinc5, j_iload6, j_aload6, j_istore6, j_astore6, j_iinc6, j_iload7, j_aload7, j_istore7, j_astore7, j_iinc7, j_iload8, j_aload8, j_istore8, j_astore8, j_iinc8, j_iadd, j_isub, j_imul, j_iand, j_ior, j_ixor, j_ishl, j_ishr, j_iushr, j_idiv, j_irem, j_ineg, j_ladd, j_lmul, j_land, j_lor, j_lcmp, j_lushr, j_lshl, j_i2l, j_l2i, j_dupI, j_dupR, j_popI, j_dup2, j_ifeq, j_iceq, j_ifne, j_icne, j_iflt, j_iclt, j_ifge, j_icge, j_ifgt, j_icgt, j_ifle, j_icle, j_goto, j_tsw, j_sw0, j_sw1, j_ireturn, j_zreturn, j_lreturn, j_return, j_getfield, j_putI, j_putJ, j_putR, j_iaload, j_baload, j_iastore, j_bastore, j_aaload, j_q, j_aastore, j_acopy, j_mmin, j_mmax, j_mabs, j_objinit, j_new, j_newI, j_newQ, j_sld, j_slen, j_callV0, j_callI0, j_callS0, j_callV1, j_callI1, j_callS1, j_callV2, j_callI2, j_callS2, j_callV3, j_callS3, j_callV4, j_callS4, j_callV5, j_callS5, j_pushS, j_pushN, j_sh0, j_sh1, j_sh2, j_sh3, j_sh4, Int32.reduceAdd, Int32.reduceMul, Int32.reduceSub, Int32.reduceLT, Int32.reduceLE, eq_self, i32_10, i32_01, ne_eq, hrow_s, hrow_n, ne10, ne100, ne1000, ne7, ne4, ne14, ne9973, or_true, true_or, or_false, false_or, not_true_eq_false, not_false_eq_true, false_implies, implies_true, and_true, forall_const, true_implies, jargs_n, jargs_r, jargs_i, List.cons_append, List.nil_append, true_and, Nat.reduceEqDiff, reduceIte, ft_X6_chance_0, ft_X6_chance_1, ft_X6_chance_2, ft_X6_chance_5, ft_X6_chance_6, ft_X6_chance_8, ft_X6_chance_11, ft_X6_chance_12, ft_X6_chance_15, ft_X6_chance_16, ft_X6_chance_18, ft_X6_chance_21, ft_X6_chance_23, ft_X6_chance_24, ft_X6_chance_25, ft_X6_chance_27, ft_X6_chance_28, ft_X6_chance_30, ft_X6_chance_32, ft_X6_chance_33, ft_X6_chance_34, ft_X6_chance_37, ft_X6_chance_40, ft_X6_chance_41, ft_X6_chance_44, ft_X6_chance_45, ft_X6_chance_48, ft_X6_chance_49, ft_X6_chance_52, ft_X6_chance_55, ft_X6_chance_56, ft_X6_chance_59, ft_X6_chance_60, ft_X6_chance_63, ft_X6_chance_64, ft_X6_chance_66, ft_X6_chance_68, ft_X6_chance_69, ft_X6_chance_72, ft_X6_chance_73, ft_X6_chance_76, ft_X6_chance_77, ft_X6_chance_80, ft_X6_chance_83, ft_X6_chance_85, ft_X6_chance_88, ft_X6_chance_90, ft_X6_chance_92, ft_X6_chance_93, ft_X6_chance_95, ft_X6_chance_98, ft_X6_chance_100, ft_X6_chance_101, ft_X6_chance_102, ft_X6_chance_103, ft_X6_chance_106, ft_X6_chance_109, ft_X6_chance_111, ft_X6_chance_112, ft_X6_chance_115, ft_X6_chance_116, ft_X6_chance_117, ft_X6_chance_119, ft_X6_chance_122, ft_X6_chance_125, ft_X6_chance_127, ft_X6_chance_129, ft_X6_chance_130, ft_X6_chance_133, ft_X6_chance_136, ft_X6_chance_139, ft_X6_chance_140, ft_X6_chance_143, fl_0_1, fl_3_2, v.r 3 rfl, r.hP, shlP P r.h4, hc, s_X6_power, s_X6_lowest, nI_clamp (show P < 2 ^ 31 by have := r.h4; omega)]
    rw [show j = 2 ^ P by omega]
    exact h C1 v
  | succ k ih =>
    intro j hj o C1 v h
    have hc : (nI (2 ^ P) ≤ nI j) = False := eq_false (nI_ge (by omega) (by omega))
    have hk := fun o C1 v => ih (j + 1) (by omega) o C1 v h
    unfold chS chT at hk
    refine jrun_first OK_X6_chance (C := [30]) 80 ?_
    simp -implicitDefEqProofs only [jr_0, jr_1, jr_2, j_iconst, j_lconst, j_iload0, j_aload0, j_istore0, j_astore0, j_iinc0, j_iload1, j_aload1, j_istore1, j_astore1, j_iinc1, j_iload2, j_aload2, j_istore2, j_astore2, j_iinc2, j_iload3, j_aload3, j_istore3, j_astore3, j_iinc3, j_iload4, j_aload4, j_istore4, j_astore4, j_iinc4, j_iload5, j_aload5, j_istore5, j_astore5, j_iinc5, j_iload6, j_aload6, j_istore6, j_astore6, j_iinc6, j_iload7, j_aload7, j_istore7, j_astore7, j_iinc7, j_iload8, j_aload8, j_istore8, j_astore8, j_iinc8, j_iadd, j_isub, j_imul, j_iand, j_ior, j_ixor, j_ishl, j_ishr, j_iushr, j_idiv, j_irem, j_ineg, j_ladd, j_lmul, j_land, j_lor, j_lcmp, j_lushr, j_lshl, j_i2l, j_l2i, j_dupI, j_dupR, j_popI, j_dup2, j_ifeq, j_iceq, j_ifne, j_icne, j_iflt, j_iclt, j_ifge, j_icge, j_ifgt, j_icgt, j_ifle, j_icle, j_goto, j_tsw, j_sw0, j_sw1, j_ireturn, j_zreturn, j_lreturn, j_return, j_getfield, j_putI, j_putJ, j_putR, j_iaload, j_baload, j_iastore, j_bastore, j_aaload, j_q, j_aastore, j_acopy, j_mmin, j_mmax, j_mabs, j_objinit, j_new, j_newI, j_newQ, j_sld, j_slen, j_callV0, j_callI0, j_callS0, j_callV1, j_callI1, j_callS1, j_callV2, j_callI2, j_callS2, j_callV3, j_callS3, j_callV4, j_callS4, j_callV5, j_callS5, j_pushS, j_pushN, j_sh0, j_sh1, j_sh2, j_sh3, j_sh4, Int32.reduceAdd, Int32.reduceMul, Int32.reduceSub, Int32.reduceLT, Int32.reduceLE, eq_self, i32_10, i32_01, ne_eq, hrow_s, hrow_n, ne10, ne100, ne1000, ne7, ne4, ne14, ne9973, or_true, true_or, or_false, false_or, not_true_eq_false, not_false_eq_true, false_implies, implies_true, and_true, forall_const, true_implies, jargs_n, jargs_r, jargs_i, List.cons_append, List.nil_append, true_and, Nat.reduceEqDiff, reduceIte, ft_X6_chance_0, ft_X6_chance_1, ft_X6_chance_2, ft_X6_chance_5, ft_X6_chance_6, ft_X6_chance_8, ft_X6_chance_11, ft_X6_chance_12, ft_X6_chance_15, ft_X6_chance_16, ft_X6_chance_18, ft_X6_chance_21, ft_X6_chance_23, ft_X6_chance_24, ft_X6_chance_25, ft_X6_chance_27, ft_X6_chance_28, ft_X6_chance_30, ft_X6_chance_32, ft_X6_chance_33, ft_X6_chance_34, ft_X6_chance_37, ft_X6_chance_40, ft_X6_chance_41, ft_X6_chance_44, ft_X6_chance_45, ft_X6_chance_48, ft_X6_chance_49, ft_X6_chance_52, ft_X6_chance_55, ft_X6_chance_56, ft_X6_chance_59, ft_X6_chance_60, ft_X6_chance_63, ft_X6_chance_64, ft_X6_chance_66, ft_X6_chance_68, ft_X6_chance_69, ft_X6_chance_72, ft_X6_chance_73, ft_X6_chance_76, ft_X6_chance_77, ft_X6_chance_80, ft_X6_chance_83, ft_X6_chance_85, ft_X6_chance_88, ft_X6_chance_90, ft_X6_chance_92, ft_X6_chance_93, ft_X6_chance_95, ft_X6_chance_98, ft_X6_chance_100, ft_X6_chance_101, ft_X6_chance_102, ft_X6_chance_103, ft_X6_chance_106, ft_X6_chance_109, ft_X6_chance_111, ft_X6_chance_112, ft_X6_chance_115, ft_X6_chance_116, ft_X6_chance_117, ft_X6_chance_119, ft_X6_chance_122, ft_X6_chance_125, ft_X6_chance_127, ft_X6_chance_129, ft_X6_chance_130, ft_X6_chance_133, ft_X6_chance_136, ft_X6_chance_139, ft_X6_chance_140, ft_X6_chance_143, fl_0_1, fl_0_2, fl_0_3, fl_0_4, fl_3_2, rc_6, jrcv_st js_12, v.r 3 rfl, r.hP, shlP P r.h4, hc, s_takeH r v]
    refine s_passT (show n < 2 ^ 31 by omega) (v.h12 r.c9) r.hP r.h4 fun C2 v2 e2 => ?_
    rw [hrow_s] at e2
    simp -implicitDefEqProofs only [jr_0, jr_1, jr_2, j_iconst, j_lconst, j_iload0, j_aload0, j_istore0, j_astore0, j_iinc0, j_iload1, j_aload1, j_istore1, j_astore1, j_iinc1, j_iload2, j_aload2, j_istore2, j_astore2, j_iinc2, j_iload3, j_aload3, j_istore3, j_astore3, j_iinc3, j_iload4, j_aload4, j_istore4, j_astore4, j_iinc4, j_iload5, j_aload5, j_istore5, j_astore5, j_iinc5, j_iload6, j_aload6, j_istore6, j_astore6, j_iinc6, j_iload7, j_aload7, j_istore7, j_astore7, j_iinc7, j_iload8, j_aload8, j_istore8, j_astore8, j_iinc8, j_iadd, j_isub, j_imul, j_iand, j_ior, j_ixor, j_ishl, j_ishr, j_iushr, j_idiv, j_irem, j_ineg, j_ladd, j_lmul, j_land, j_lor, j_lcmp, j_lushr, j_lshl, j_i2l, j_l2i, j_dupI, j_dupR, j_popI, j_dup2, j_ifeq, j_iceq, j_ifne, j_icne, j_iflt, j_iclt, j_ifge, j_icge, j_ifgt, j_icgt, j_ifle, j_icle, j_goto, j_tsw, j_sw0, j_sw1, j_ireturn, j_zreturn, j_lreturn, j_return, j_getfield, j_putI, j_putJ, j_putR, j_iaload, j_baload, j_iastore, j_bastore, j_aaload, j_q, j_aastore, j_acopy, j_mmin, j_mmax, j_mabs, j_objinit, j_new, j_newI, j_newQ, j_sld, j_slen, j_callV0, j_callI0, j_callS0, j_callV1, j_callI1, j_callS1, j_callV2, j_callI2, j_callS2, j_callV3, j_callS3, j_callV4, j_callS4, j_callV5, j_callS5, j_pushS, j_pushN, j_sh0, j_sh1, j_sh2, j_sh3, j_sh4, Int32.reduceAdd, Int32.reduceMul, Int32.reduceSub, Int32.reduceLT, Int32.reduceLE, eq_self, i32_10, i32_01, ne_eq, hrow_s, hrow_n, ne10, ne100, ne1000, ne7, ne4, ne14, ne9973, or_true, true_or, or_false, false_or, not_true_eq_false, not_false_eq_true, false_implies, implies_true, and_true, forall_const, true_implies, jargs_n, jargs_r, jargs_i, List.cons_append, List.nil_append, true_and, Nat.reduceEqDiff, reduceIte, ft_X6_chance_0, ft_X6_chance_1, ft_X6_chance_2, ft_X6_chance_5, ft_X6_chance_6, ft_X6_chance_8, ft_X6_chance_11, ft_X6_chance_12, ft_X6_chance_15, ft_X6_chance_16, ft_X6_chance_18, ft_X6_chance_21, ft_X6_chance_23, ft_X6_chance_24, ft_X6_chance_25, ft_X6_chance_27, ft_X6_chance_28, ft_X6_chance_30, ft_X6_chance_32, ft_X6_chance_33, ft_X6_chance_34, ft_X6_chance_37, ft_X6_chance_40, ft_X6_chance_41, ft_X6_chance_44, ft_X6_chance_45, ft_X6_chance_48, ft_X6_chance_49, ft_X6_chance_52, ft_X6_chance_55, ft_X6_chance_56, ft_X6_chance_59, ft_X6_chance_60, ft_X6_chance_63, ft_X6_chance_64, ft_X6_chance_66, ft_X6_chance_68, ft_X6_chance_69, ft_X6_chance_72, ft_X6_chance_73, ft_X6_chance_76, ft_X6_chance_77, ft_X6_chance_80, ft_X6_chance_83, ft_X6_chance_85, ft_X6_chance_88, ft_X6_chance_90, ft_X6_chance_92, ft_X6_chance_93, ft_X6_chance_95, ft_X6_chance_98, ft_X6_chance_100, ft_X6_chance_101, ft_X6_chance_102, ft_X6_chance_103, ft_X6_chance_106, ft_X6_chance_109, ft_X6_chance_111, ft_X6_chance_112, ft_X6_chance_115, ft_X6_chance_116, ft_X6_chance_117, ft_X6_chance_119, ft_X6_chance_122, ft_X6_chance_125, ft_X6_chance_127, ft_X6_chance_129, ft_X6_chance_130, ft_X6_chance_133, ft_X6_chance_136, ft_X6_chance_139, ft_X6_chance_140, ft_X6_chance_143, fl_0_1, fl_0_4, fl_3_2, jrcv_st js_12, s_X4_postsIn js_12, e2, v2.r 3 rfl, r.hP, s_J6_bitCount, s_X6_power, nI_1]
    by_cases h1 : postsInF (goF C (nI j) 15 (-1) n (C 9)) 4 = 0
    · simp only [pick_t h1] at hk
      simp only [h1, not_true_eq_false, not_false_eq_true, true_implies, false_implies, implies_true, and_true, true_and, forall_const]
      exact hk _ C2 v2
    · simp only [pick_f h1, Int32.add_zero] at hk
      simp only [h1, not_true_eq_false, not_false_eq_true, true_implies, false_implies, implies_true, and_true, true_and, forall_const]
      exact hk _ C2 v2
theorem ok_X6_chance : jMeets Y_X6_chance S_X6_chance := by
  intro nb vs mem Q h
  obtain ⟨C, z, P, n, x, u, rfl, rfl, r, hQ⟩ := h
  refine Ok.run OK_X6_chance [30] 60 [none, none, none] pn6 (Nat.le_of_ble_eq_true rfl) rfl ?_
  simp -implicitDefEqProofs only [jr_0, jr_1, jr_2, j_iconst, j_lconst, j_iload0, j_aload0, j_istore0, j_astore0, j_iinc0, j_iload1, j_aload1, j_istore1, j_astore1, j_iinc1, j_iload2, j_aload2, j_istore2, j_astore2, j_iinc2, j_iload3, j_aload3, j_istore3, j_astore3, j_iinc3, j_iload4, j_aload4, j_istore4, j_astore4, j_iinc4, j_iload5, j_aload5, j_istore5, j_astore5, j_iinc5, j_iload6, j_aload6, j_istore6, j_astore6, j_iinc6, j_iload7, j_aload7, j_istore7, j_astore7, j_iinc7, j_iload8, j_aload8, j_istore8, j_astore8, j_iinc8, j_iadd, j_isub, j_imul, j_iand, j_ior, j_ixor, j_ishl, j_ishr, j_iushr, j_idiv, j_irem, j_ineg, j_ladd, j_lmul, j_land, j_lor, j_lcmp, j_lushr, j_lshl, j_i2l, j_l2i, j_dupI, j_dupR, j_popI, j_dup2, j_ifeq, j_iceq, j_ifne, j_icne, j_iflt, j_iclt, j_ifge, j_icge, j_ifgt, j_icgt, j_ifle, j_icle, j_goto, j_tsw, j_sw0, j_sw1, j_ireturn, j_zreturn, j_lreturn, j_return, j_getfield, j_putI, j_putJ, j_putR, j_iaload, j_baload, j_iastore, j_bastore, j_aaload, j_q, j_aastore, j_acopy, j_mmin, j_mmax, j_mabs, j_objinit, j_new, j_newI, j_newQ, j_sld, j_slen, j_callV0, j_callI0, j_callS0, j_callV1, j_callI1, j_callS1, j_callV2, j_callI2, j_callS2, j_callV3, j_callS3, j_callV4, j_callS4, j_callV5, j_callS5, j_pushS, j_pushN, j_sh0, j_sh1, j_sh2, j_sh3, j_sh4, Int32.reduceAdd, Int32.reduceMul, Int32.reduceSub, Int32.reduceLT, Int32.reduceLE, eq_self, i32_10, i32_01, ne_eq, hrow_s, hrow_n, ne10, ne100, ne1000, ne7, ne4, ne14, ne9973, or_true, true_or, or_false, false_or, not_true_eq_false, not_false_eq_true, false_implies, implies_true, and_true, forall_const, true_implies, jargs_n, jargs_r, jargs_i, List.cons_append, List.nil_append, true_and, Nat.reduceEqDiff, reduceIte, ft_X6_chance_0, ft_X6_chance_1, ft_X6_chance_2, ft_X6_chance_5, ft_X6_chance_6, ft_X6_chance_8, ft_X6_chance_11, ft_X6_chance_12, ft_X6_chance_15, ft_X6_chance_16, ft_X6_chance_18, ft_X6_chance_21, ft_X6_chance_23, ft_X6_chance_24, ft_X6_chance_25, ft_X6_chance_27, ft_X6_chance_28, ft_X6_chance_30, ft_X6_chance_32, ft_X6_chance_33, ft_X6_chance_34, ft_X6_chance_37, ft_X6_chance_40, ft_X6_chance_41, ft_X6_chance_44, ft_X6_chance_45, ft_X6_chance_48, ft_X6_chance_49, ft_X6_chance_52, ft_X6_chance_55, ft_X6_chance_56, ft_X6_chance_59, ft_X6_chance_60, ft_X6_chance_63, ft_X6_chance_64, ft_X6_chance_66, ft_X6_chance_68, ft_X6_chance_69, ft_X6_chance_72, ft_X6_chance_73, ft_X6_chance_76, ft_X6_chance_77, ft_X6_chance_80, ft_X6_chance_83, ft_X6_chance_85, ft_X6_chance_88, ft_X6_chance_90, ft_X6_chance_92, ft_X6_chance_93, ft_X6_chance_95, ft_X6_chance_98, ft_X6_chance_100, ft_X6_chance_101, ft_X6_chance_102, ft_X6_chance_103, ft_X6_chance_106, ft_X6_chance_109, ft_X6_chance_111, ft_X6_chance_112, ft_X6_chance_115, ft_X6_chance_116, ft_X6_chance_117, ft_X6_chance_119, ft_X6_chance_122, ft_X6_chance_125, ft_X6_chance_127, ft_X6_chance_129, ft_X6_chance_130, ft_X6_chance_133, ft_X6_chance_136, ft_X6_chance_139, ft_X6_chance_140, ft_X6_chance_143]
  unfold chanceA at hQ
  by_cases h2 : (1 ≤ n ∧ n ≤ 9) ∧ 0 ≤ x ∧ x ≤ 10
  · simp only [pick_t h2] at hQ
    obtain ⟨⟨ha, hb⟩, hc, hd⟩ := h2
    simp only [Int32.not_lt.mpr ha, Int32.not_lt.mpr hb, Int32.not_lt.mpr hc, hd, not_true_eq_false, not_false_eq_true, true_implies, false_implies, implies_true, and_true, true_and, forall_const]
    obtain ⟨m, -, hm, rfl⟩ := i32_btw (a := 1) (b := 9) (by decide) (by decide) ha hb
    rw [nI_clamp (show m < 2 ^ 31 by omega)] at hQ
    exact lp_X6_chance r hm (2 ^ P) 0 (by omega) none C r.rf hQ
  · simp only [pick_f h2] at hQ
    have hq := hQ C r.rf
    by_cases a1 : n < 1
    · simp only [a1, not_true_eq_false, not_false_eq_true, true_implies, false_implies, implies_true, and_true, true_and, forall_const]; exact hq
    · by_cases a2 : ¬ 9 < n
      · by_cases a3 : x < 0
        · simp only [a1, a2, a3, not_true_eq_false, not_false_eq_true, true_implies, false_implies, implies_true, and_true, true_and, forall_const]; exact hq
        · by_cases a4 : ¬ x ≤ 10
          · simp only [a1, a2, a3, a4, not_true_eq_false, not_false_eq_true, true_implies, false_implies, implies_true, and_true, true_and, forall_const]; exact hq
          · exact absurd ⟨⟨Int32.not_lt.mp a1, Int32.not_lt.mp a2⟩, Int32.not_lt.mp a3, Classical.not_not.mp a4⟩ h2
      · have a2' := Classical.not_not.mp a2; simp only [a1, a2', not_true_eq_false, not_false_eq_true, true_implies, false_implies, implies_true, and_true, true_and, forall_const]; exact hq
theorem s_X6_chance {nb P : Nat} {C : Nat → Nat → Int32} {z : Nat → Int64} {n x u : Int32} {Q : jQ} (r : RC C P) (hQ : ∀ C', Hv C C' → Q (some (.int (chanceA C P n x u))) (memS 94 C' z)) : S_X6_chance nb [.ref 0, .int n, .int x, .int u] (memS 94 C z) Q := ⟨C, z, P, n, x, u, rfl, rfl, r, hQ⟩
/-! deny, mayLie, which -/
def dny1 (C : Nat → Nat → Int32) (P : Nat) (n : Int32) (ρ : Nat → Int32) (i : Nat) : Prop := C 62 i = n ∧ C 61 i < nI P ∧ ¬ rget ρ (C 61 i) 7 = C 63 i
def dnyF (C : Nat → Nat → Int32) (P : Nat) (n : Int32) (ρ : Nat → Int32) : Nat → Nat → Prop
  | 0, _ => False
  | k + 1, i => dny1 C P n ρ i ∨ dnyF C P n ρ k (i + 1)
def S_X2_deny : jSp := fun _ vs mem Q => ∃ C z P ct, ∃ n : Int32, vs = [.ref 60, .ref 12, .int n, .int (nI P)] ∧ mem = memS 94 C z ∧ C 60 3 = nI ct ∧ ct ≤ 6 ∧ Q (some (.int (zb (dnyF C P n (C 12) ct 0)))) (memS 94 C z)
def F_X2_deny_0 : Nat → jT := fun pc => (bif Nat.blt pc 9 then (bif Nat.blt pc 3 then (bif Nat.blt pc 1 then (bif Nat.beq pc 0 then J_iconst 0 1 else jbad) else (bif Nat.beq pc 1 then J_istore 4 3 else jbad)) else (bif Nat.blt pc 5 then (bif Nat.beq pc 3 then J_iload 4 5 else jbad) else (bif Nat.blt pc 6 then (bif Nat.beq pc 5 then J_aload 0 6 else jbad) else (bif Nat.beq pc 6 then J_getfield 2 3 9 else jbad)))) else (bif Nat.blt pc 16 then (bif Nat.blt pc 12 then (bif Nat.beq pc 9 then J_icge 84 12 else jbad) else (bif Nat.blt pc 14 then (bif Nat.beq pc 12 then J_iload 4 14 else jbad) else (bif Nat.beq pc 14 then J_iconst 6 16 else jbad))) else (bif Nat.blt pc 19 then (bif Nat.beq pc 16 then J_icge 84 19 else jbad) else (bif Nat.blt pc 20 then (bif Nat.beq pc 19 then J_aload 0 20 else jbad) else (bif Nat.beq pc 20 then J_getfield 2 1 23 else jbad)))))
theorem ftl_X2_deny_0 : F_X2_deny_0 0 = J_iconst 0 1 := rfl
theorem ftl_X2_deny_1 : F_X2_deny_0 1 = J_istore 4 3 := rfl
theorem ftl_X2_deny_3 : F_X2_deny_0 3 = J_iload 4 5 := rfl
theorem ftl_X2_deny_5 : F_X2_deny_0 5 = J_aload 0 6 := rfl
theorem ftl_X2_deny_6 : F_X2_deny_0 6 = J_getfield 2 3 9 := rfl
theorem ftl_X2_deny_9 : F_X2_deny_0 9 = J_icge 84 12 := rfl
theorem ftl_X2_deny_12 : F_X2_deny_0 12 = J_iload 4 14 := rfl
theorem ftl_X2_deny_14 : F_X2_deny_0 14 = J_iconst 6 16 := rfl
theorem ftl_X2_deny_16 : F_X2_deny_0 16 = J_icge 84 19 := rfl
theorem ftl_X2_deny_19 : F_X2_deny_0 19 = J_aload 0 20 := rfl
theorem ftl_X2_deny_20 : F_X2_deny_0 20 = J_getfield 2 1 23 := rfl
theorem F_X2_deny_0_ok : jOK Y_X2_deny none (F_X2_deny_0) := (jOK_node (jOK_node (jOK_node (jOK_leaf (sn_iconst dX2_deny_0 rfl rfl)) (jOK_leaf (sn_istore dX2_deny_1 rfl (by decide)))) (jOK_node (jOK_leaf (sn_iload dX2_deny_3 rfl)) (jOK_node (jOK_leaf (sn_aload_n dX2_deny_5 rfl rfl)) (jOK_leaf (sn_getfield dX2_deny_6 rfl rfl (by decide) tw_135 jin2))))) (jOK_node (jOK_node (jOK_leaf (sn_icge dX2_deny_9 rfl rfl)) (jOK_node (jOK_leaf (sn_iload dX2_deny_12 rfl)) (jOK_leaf (sn_bipush dX2_deny_14 rfl rfl)))) (jOK_node (jOK_leaf (sn_icge dX2_deny_16 rfl rfl)) (jOK_node (jOK_leaf (sn_aload_n dX2_deny_19 rfl rfl)) (jOK_leaf (sn_getfield dX2_deny_20 rfl rfl (by decide) tw_133 jin2))))))
def F_X2_deny_23 : Nat → jT := fun pc => (bif Nat.blt pc 31 then (bif Nat.blt pc 26 then (bif Nat.blt pc 25 then (bif Nat.beq pc 23 then J_iload 4 25 else jbad) else (bif Nat.beq pc 25 then J_iaload 26 else jbad)) else (bif Nat.blt pc 27 then (bif Nat.beq pc 26 then J_iload 2 27 else jbad) else (bif Nat.blt pc 30 then (bif Nat.beq pc 27 then J_icne 45 30 else jbad) else (bif Nat.beq pc 30 then J_aload 0 31 else jbad)))) else (bif Nat.blt pc 37 then (bif Nat.blt pc 34 then (bif Nat.beq pc 31 then J_getfield 2 0 34 else jbad) else (bif Nat.blt pc 36 then (bif Nat.beq pc 34 then J_iload 4 36 else jbad) else (bif Nat.beq pc 36 then J_iaload 37 else jbad))) else (bif Nat.blt pc 38 then (bif Nat.beq pc 37 then J_iload 3 38 else jbad) else (bif Nat.blt pc 41 then (bif Nat.beq pc 38 then J_icge 45 41 else jbad) else (bif Nat.beq pc 41 then J_iconst 1 42 else jbad)))))
theorem ftl_X2_deny_23 : F_X2_deny_23 23 = J_iload 4 25 := rfl
theorem ftl_X2_deny_25 : F_X2_deny_23 25 = J_iaload 26 := rfl
theorem ftl_X2_deny_26 : F_X2_deny_23 26 = J_iload 2 27 := rfl
theorem ftl_X2_deny_27 : F_X2_deny_23 27 = J_icne 45 30 := rfl
theorem ftl_X2_deny_30 : F_X2_deny_23 30 = J_aload 0 31 := rfl
theorem ftl_X2_deny_31 : F_X2_deny_23 31 = J_getfield 2 0 34 := rfl
theorem ftl_X2_deny_34 : F_X2_deny_23 34 = J_iload 4 36 := rfl
theorem ftl_X2_deny_36 : F_X2_deny_23 36 = J_iaload 37 := rfl
theorem ftl_X2_deny_37 : F_X2_deny_23 37 = J_iload 3 38 := rfl
theorem ftl_X2_deny_38 : F_X2_deny_23 38 = J_icge 45 41 := rfl
theorem ftl_X2_deny_41 : F_X2_deny_23 41 = J_iconst 1 42 := rfl
theorem F_X2_deny_23_ok : jOK Y_X2_deny none (F_X2_deny_23) := (jOK_node (jOK_node (jOK_node (jOK_leaf (sn_iload dX2_deny_23 rfl)) (jOK_leaf (sn_iaload dX2_deny_25 rfl))) (jOK_node (jOK_leaf (sn_iload_n dX2_deny_26 rfl rfl)) (jOK_node (jOK_leaf (sn_icne dX2_deny_27 rfl rfl)) (jOK_leaf (sn_aload_n dX2_deny_30 rfl rfl))))) (jOK_node (jOK_node (jOK_leaf (sn_getfield dX2_deny_31 rfl rfl (by decide) tw_132 jin2)) (jOK_node (jOK_leaf (sn_iload dX2_deny_34 rfl)) (jOK_leaf (sn_iaload dX2_deny_36 rfl)))) (jOK_node (jOK_leaf (sn_iload_n dX2_deny_37 rfl rfl)) (jOK_node (jOK_leaf (sn_icge dX2_deny_38 rfl rfl)) (jOK_leaf (sn_iconst dX2_deny_41 rfl rfl))))))
def F_X2_deny_0_41 : Nat → jT := fun pc => bif Nat.blt pc 23 then F_X2_deny_0 pc else F_X2_deny_23 pc
theorem F_X2_deny_0_41_l {pc : Nat} (h : Nat.blt pc 23 = true) : F_X2_deny_0_41 pc = F_X2_deny_0 pc := by unfold F_X2_deny_0_41; rw [h]; rfl
theorem F_X2_deny_0_41_r {pc : Nat} (h : Nat.blt pc 23 = false) : F_X2_deny_0_41 pc = F_X2_deny_23 pc := by unfold F_X2_deny_0_41; rw [h]; rfl
theorem F_X2_deny_0_41_ok : jOK Y_X2_deny none (F_X2_deny_0_41) := jOK_node (F_X2_deny_0_ok) (F_X2_deny_23_ok)
def F_X2_deny_42 : Nat → jT := fun pc => (bif Nat.blt pc 53 then (bif Nat.blt pc 46 then (bif Nat.blt pc 45 then (bif Nat.beq pc 42 then J_goto 46 else jbad) else (bif Nat.beq pc 45 then J_iconst 0 46 else jbad)) else (bif Nat.blt pc 48 then (bif Nat.beq pc 46 then J_istore 5 48 else jbad) else (bif Nat.blt pc 50 then (bif Nat.beq pc 48 then J_iload 5 50 else jbad) else (bif Nat.beq pc 50 then J_ifeq 78 53 else jbad)))) else (bif Nat.blt pc 58 then (bif Nat.blt pc 54 then (bif Nat.beq pc 53 then J_aload 1 54 else jbad) else (bif Nat.blt pc 55 then (bif Nat.beq pc 54 then J_aload 0 55 else jbad) else (bif Nat.beq pc 55 then J_getfield 2 0 58 else jbad))) else (bif Nat.blt pc 60 then (bif Nat.beq pc 58 then J_iload 4 60 else jbad) else (bif Nat.blt pc 61 then (bif Nat.beq pc 60 then J_iaload 61 else jbad) else (bif Nat.beq pc 61 then J_iconst 7 63 else jbad)))))
theorem ftl_X2_deny_42 : F_X2_deny_42 42 = J_goto 46 := rfl
theorem ftl_X2_deny_45 : F_X2_deny_42 45 = J_iconst 0 46 := rfl
theorem ftl_X2_deny_46 : F_X2_deny_42 46 = J_istore 5 48 := rfl
theorem ftl_X2_deny_48 : F_X2_deny_42 48 = J_iload 5 50 := rfl
theorem ftl_X2_deny_50 : F_X2_deny_42 50 = J_ifeq 78 53 := rfl
theorem ftl_X2_deny_53 : F_X2_deny_42 53 = J_aload 1 54 := rfl
theorem ftl_X2_deny_54 : F_X2_deny_42 54 = J_aload 0 55 := rfl
theorem ftl_X2_deny_55 : F_X2_deny_42 55 = J_getfield 2 0 58 := rfl
theorem ftl_X2_deny_58 : F_X2_deny_42 58 = J_iload 4 60 := rfl
theorem ftl_X2_deny_60 : F_X2_deny_42 60 = J_iaload 61 := rfl
theorem ftl_X2_deny_61 : F_X2_deny_42 61 = J_iconst 7 63 := rfl
theorem F_X2_deny_42_ok : jOK Y_X2_deny none (F_X2_deny_42) := (jOK_node (jOK_node (jOK_node (jOK_leaf (sn_goto dX2_deny_42 rfl)) (jOK_leaf (sn_iconst dX2_deny_45 rfl rfl))) (jOK_node (jOK_leaf (sn_istore dX2_deny_46 rfl (by decide))) (jOK_node (jOK_leaf (sn_iload dX2_deny_48 rfl)) (jOK_leaf (sn_ifeq dX2_deny_50 rfl rfl))))) (jOK_node (jOK_node (jOK_leaf (sn_aload_n dX2_deny_53 rfl rfl)) (jOK_node (jOK_leaf (sn_aload_n dX2_deny_54 rfl rfl)) (jOK_leaf (sn_getfield dX2_deny_55 rfl rfl (by decide) tw_132 jin2)))) (jOK_node (jOK_leaf (sn_iload dX2_deny_58 rfl)) (jOK_node (jOK_leaf (sn_iaload dX2_deny_60 rfl)) (jOK_leaf (sn_bipush dX2_deny_61 rfl rfl))))))
def F_X2_deny_63 : Nat → jT := fun pc => (bif Nat.blt pc 76 then (bif Nat.blt pc 70 then (bif Nat.blt pc 66 then (bif Nat.beq pc 63 then J_callV 4 S_X4_get 2 66 else jbad) else (bif Nat.blt pc 67 then (bif Nat.beq pc 66 then J_aload 0 67 else jbad) else (bif Nat.beq pc 67 then J_getfield 2 2 70 else jbad))) else (bif Nat.blt pc 72 then (bif Nat.beq pc 70 then J_iload 4 72 else jbad) else (bif Nat.blt pc 73 then (bif Nat.beq pc 72 then J_iaload 73 else jbad) else (bif Nat.beq pc 73 then J_iceq 78 76 else jbad)))) else (bif Nat.blt pc 81 then (bif Nat.blt pc 77 then (bif Nat.beq pc 76 then J_iconst 1 77 else jbad) else (bif Nat.blt pc 78 then (bif Nat.beq pc 77 then J_zreturn 0 0 else jbad) else (bif Nat.beq pc 78 then J_iinc 4 1 81 else jbad))) else (bif Nat.blt pc 84 then (bif Nat.beq pc 81 then J_goto 3 else jbad) else (bif Nat.blt pc 85 then (bif Nat.beq pc 84 then J_iconst 0 85 else jbad) else (bif Nat.beq pc 85 then J_zreturn 0 0 else jbad)))))
theorem ftl_X2_deny_63 : F_X2_deny_63 63 = J_callV 4 S_X4_get 2 66 := rfl
theorem ftl_X2_deny_66 : F_X2_deny_63 66 = J_aload 0 67 := rfl
theorem ftl_X2_deny_67 : F_X2_deny_63 67 = J_getfield 2 2 70 := rfl
theorem ftl_X2_deny_70 : F_X2_deny_63 70 = J_iload 4 72 := rfl
theorem ftl_X2_deny_72 : F_X2_deny_63 72 = J_iaload 73 := rfl
theorem ftl_X2_deny_73 : F_X2_deny_63 73 = J_iceq 78 76 := rfl
theorem ftl_X2_deny_76 : F_X2_deny_63 76 = J_iconst 1 77 := rfl
theorem ftl_X2_deny_77 : F_X2_deny_63 77 = J_zreturn 0 0 := rfl
theorem ftl_X2_deny_78 : F_X2_deny_63 78 = J_iinc 4 1 81 := rfl
theorem ftl_X2_deny_81 : F_X2_deny_63 81 = J_goto 3 := rfl
theorem ftl_X2_deny_84 : F_X2_deny_63 84 = J_iconst 0 85 := rfl
theorem ftl_X2_deny_85 : F_X2_deny_63 85 = J_zreturn 0 0 := rfl
theorem F_X2_deny_63_ok : jOK Y_X2_deny none (F_X2_deny_63) := (jOK_node (jOK_node (jOK_node (jOK_leaf (sn_callV (Y' := Y_X4_get) ok_X4_get dX2_deny_63 rfl rfl rfl tw_555 tw_267 tw_268 tw_5 jc_X4_get rfl ⟨by decide, by decide, rfl⟩ ⟨by decide, by decide⟩)) (jOK_node (jOK_leaf (sn_aload_n dX2_deny_66 rfl rfl)) (jOK_leaf (sn_getfield dX2_deny_67 rfl rfl (by decide) tw_134 jin2)))) (jOK_node (jOK_leaf (sn_iload dX2_deny_70 rfl)) (jOK_node (jOK_leaf (sn_iaload dX2_deny_72 rfl)) (jOK_leaf (sn_iceq dX2_deny_73 rfl rfl))))) (jOK_node (jOK_node (jOK_leaf (sn_iconst dX2_deny_76 rfl rfl)) (jOK_node (jOK_leaf (sn_zreturn dX2_deny_77 rfl rfl)) (jOK_leaf (sn_iinc dX2_deny_78 rfl rfl (by decide))))) (jOK_node (jOK_leaf (sn_goto dX2_deny_81 rfl)) (jOK_node (jOK_leaf (sn_iconst dX2_deny_84 rfl rfl)) (jOK_leaf (sn_zreturn dX2_deny_85 rfl rfl))))))
def F_X2_deny_42_85 : Nat → jT := fun pc => bif Nat.blt pc 63 then F_X2_deny_42 pc else F_X2_deny_63 pc
theorem F_X2_deny_42_85_l {pc : Nat} (h : Nat.blt pc 63 = true) : F_X2_deny_42_85 pc = F_X2_deny_42 pc := by unfold F_X2_deny_42_85; rw [h]; rfl
theorem F_X2_deny_42_85_r {pc : Nat} (h : Nat.blt pc 63 = false) : F_X2_deny_42_85 pc = F_X2_deny_63 pc := by unfold F_X2_deny_42_85; rw [h]; rfl
theorem F_X2_deny_42_85_ok : jOK Y_X2_deny none (F_X2_deny_42_85) := jOK_node (F_X2_deny_42_ok) (F_X2_deny_63_ok)
def F_X2_deny_0_85 : Nat → jT := fun pc => bif Nat.blt pc 42 then F_X2_deny_0_41 pc else F_X2_deny_42_85 pc
theorem F_X2_deny_0_85_l {pc : Nat} (h : Nat.blt pc 42 = true) : F_X2_deny_0_85 pc = F_X2_deny_0_41 pc := by unfold F_X2_deny_0_85; rw [h]; rfl
theorem F_X2_deny_0_85_r {pc : Nat} (h : Nat.blt pc 42 = false) : F_X2_deny_0_85 pc = F_X2_deny_42_85 pc := by unfold F_X2_deny_0_85; rw [h]; rfl
theorem F_X2_deny_0_85_ok : jOK Y_X2_deny none (F_X2_deny_0_85) := jOK_node (F_X2_deny_0_41_ok) (F_X2_deny_42_85_ok)
def F_X2_deny : Nat → jT := F_X2_deny_0_85
theorem OK_X2_deny : jOK Y_X2_deny none (F_X2_deny) := F_X2_deny_0_85_ok
theorem ft_X2_deny_0 : F_X2_deny 0 = J_iconst 0 1 := (F_X2_deny_0_85_l rfl).trans ((F_X2_deny_0_41_l rfl).trans (ftl_X2_deny_0))
theorem ft_X2_deny_1 : F_X2_deny 1 = J_istore 4 3 := (F_X2_deny_0_85_l rfl).trans ((F_X2_deny_0_41_l rfl).trans (ftl_X2_deny_1))
theorem ft_X2_deny_3 : F_X2_deny 3 = J_iload 4 5 := (F_X2_deny_0_85_l rfl).trans ((F_X2_deny_0_41_l rfl).trans (ftl_X2_deny_3))
theorem ft_X2_deny_5 : F_X2_deny 5 = J_aload 0 6 := (F_X2_deny_0_85_l rfl).trans ((F_X2_deny_0_41_l rfl).trans (ftl_X2_deny_5))
theorem ft_X2_deny_6 : F_X2_deny 6 = J_getfield 2 3 9 := (F_X2_deny_0_85_l rfl).trans ((F_X2_deny_0_41_l rfl).trans (ftl_X2_deny_6))
theorem ft_X2_deny_9 : F_X2_deny 9 = J_icge 84 12 := (F_X2_deny_0_85_l rfl).trans ((F_X2_deny_0_41_l rfl).trans (ftl_X2_deny_9))
theorem ft_X2_deny_12 : F_X2_deny 12 = J_iload 4 14 := (F_X2_deny_0_85_l rfl).trans ((F_X2_deny_0_41_l rfl).trans (ftl_X2_deny_12))
theorem ft_X2_deny_14 : F_X2_deny 14 = J_iconst 6 16 := (F_X2_deny_0_85_l rfl).trans ((F_X2_deny_0_41_l rfl).trans (ftl_X2_deny_14))
theorem ft_X2_deny_16 : F_X2_deny 16 = J_icge 84 19 := (F_X2_deny_0_85_l rfl).trans ((F_X2_deny_0_41_l rfl).trans (ftl_X2_deny_16))
theorem ft_X2_deny_19 : F_X2_deny 19 = J_aload 0 20 := (F_X2_deny_0_85_l rfl).trans ((F_X2_deny_0_41_l rfl).trans (ftl_X2_deny_19))
theorem ft_X2_deny_20 : F_X2_deny 20 = J_getfield 2 1 23 := (F_X2_deny_0_85_l rfl).trans ((F_X2_deny_0_41_l rfl).trans (ftl_X2_deny_20))
theorem ft_X2_deny_23 : F_X2_deny 23 = J_iload 4 25 := (F_X2_deny_0_85_l rfl).trans ((F_X2_deny_0_41_r rfl).trans (ftl_X2_deny_23))
theorem ft_X2_deny_25 : F_X2_deny 25 = J_iaload 26 := (F_X2_deny_0_85_l rfl).trans ((F_X2_deny_0_41_r rfl).trans (ftl_X2_deny_25))
theorem ft_X2_deny_26 : F_X2_deny 26 = J_iload 2 27 := (F_X2_deny_0_85_l rfl).trans ((F_X2_deny_0_41_r rfl).trans (ftl_X2_deny_26))
theorem ft_X2_deny_27 : F_X2_deny 27 = J_icne 45 30 := (F_X2_deny_0_85_l rfl).trans ((F_X2_deny_0_41_r rfl).trans (ftl_X2_deny_27))
theorem ft_X2_deny_30 : F_X2_deny 30 = J_aload 0 31 := (F_X2_deny_0_85_l rfl).trans ((F_X2_deny_0_41_r rfl).trans (ftl_X2_deny_30))
theorem ft_X2_deny_31 : F_X2_deny 31 = J_getfield 2 0 34 := (F_X2_deny_0_85_l rfl).trans ((F_X2_deny_0_41_r rfl).trans (ftl_X2_deny_31))
theorem ft_X2_deny_34 : F_X2_deny 34 = J_iload 4 36 := (F_X2_deny_0_85_l rfl).trans ((F_X2_deny_0_41_r rfl).trans (ftl_X2_deny_34))
theorem ft_X2_deny_36 : F_X2_deny 36 = J_iaload 37 := (F_X2_deny_0_85_l rfl).trans ((F_X2_deny_0_41_r rfl).trans (ftl_X2_deny_36))
theorem ft_X2_deny_37 : F_X2_deny 37 = J_iload 3 38 := (F_X2_deny_0_85_l rfl).trans ((F_X2_deny_0_41_r rfl).trans (ftl_X2_deny_37))
theorem ft_X2_deny_38 : F_X2_deny 38 = J_icge 45 41 := (F_X2_deny_0_85_l rfl).trans ((F_X2_deny_0_41_r rfl).trans (ftl_X2_deny_38))
theorem ft_X2_deny_41 : F_X2_deny 41 = J_iconst 1 42 := (F_X2_deny_0_85_l rfl).trans ((F_X2_deny_0_41_r rfl).trans (ftl_X2_deny_41))
theorem ft_X2_deny_42 : F_X2_deny 42 = J_goto 46 := (F_X2_deny_0_85_r rfl).trans ((F_X2_deny_42_85_l rfl).trans (ftl_X2_deny_42))
theorem ft_X2_deny_45 : F_X2_deny 45 = J_iconst 0 46 := (F_X2_deny_0_85_r rfl).trans ((F_X2_deny_42_85_l rfl).trans (ftl_X2_deny_45))
theorem ft_X2_deny_46 : F_X2_deny 46 = J_istore 5 48 := (F_X2_deny_0_85_r rfl).trans ((F_X2_deny_42_85_l rfl).trans (ftl_X2_deny_46))
theorem ft_X2_deny_48 : F_X2_deny 48 = J_iload 5 50 := (F_X2_deny_0_85_r rfl).trans ((F_X2_deny_42_85_l rfl).trans (ftl_X2_deny_48))
theorem ft_X2_deny_50 : F_X2_deny 50 = J_ifeq 78 53 := (F_X2_deny_0_85_r rfl).trans ((F_X2_deny_42_85_l rfl).trans (ftl_X2_deny_50))
theorem ft_X2_deny_53 : F_X2_deny 53 = J_aload 1 54 := (F_X2_deny_0_85_r rfl).trans ((F_X2_deny_42_85_l rfl).trans (ftl_X2_deny_53))
theorem ft_X2_deny_54 : F_X2_deny 54 = J_aload 0 55 := (F_X2_deny_0_85_r rfl).trans ((F_X2_deny_42_85_l rfl).trans (ftl_X2_deny_54))
theorem ft_X2_deny_55 : F_X2_deny 55 = J_getfield 2 0 58 := (F_X2_deny_0_85_r rfl).trans ((F_X2_deny_42_85_l rfl).trans (ftl_X2_deny_55))
theorem ft_X2_deny_58 : F_X2_deny 58 = J_iload 4 60 := (F_X2_deny_0_85_r rfl).trans ((F_X2_deny_42_85_l rfl).trans (ftl_X2_deny_58))
theorem ft_X2_deny_60 : F_X2_deny 60 = J_iaload 61 := (F_X2_deny_0_85_r rfl).trans ((F_X2_deny_42_85_l rfl).trans (ftl_X2_deny_60))
theorem ft_X2_deny_61 : F_X2_deny 61 = J_iconst 7 63 := (F_X2_deny_0_85_r rfl).trans ((F_X2_deny_42_85_l rfl).trans (ftl_X2_deny_61))
theorem ft_X2_deny_63 : F_X2_deny 63 = J_callV 4 S_X4_get 2 66 := (F_X2_deny_0_85_r rfl).trans ((F_X2_deny_42_85_r rfl).trans (ftl_X2_deny_63))
theorem ft_X2_deny_66 : F_X2_deny 66 = J_aload 0 67 := (F_X2_deny_0_85_r rfl).trans ((F_X2_deny_42_85_r rfl).trans (ftl_X2_deny_66))
theorem ft_X2_deny_67 : F_X2_deny 67 = J_getfield 2 2 70 := (F_X2_deny_0_85_r rfl).trans ((F_X2_deny_42_85_r rfl).trans (ftl_X2_deny_67))
theorem ft_X2_deny_70 : F_X2_deny 70 = J_iload 4 72 := (F_X2_deny_0_85_r rfl).trans ((F_X2_deny_42_85_r rfl).trans (ftl_X2_deny_70))
theorem ft_X2_deny_72 : F_X2_deny 72 = J_iaload 73 := (F_X2_deny_0_85_r rfl).trans ((F_X2_deny_42_85_r rfl).trans (ftl_X2_deny_72))
theorem ft_X2_deny_73 : F_X2_deny 73 = J_iceq 78 76 := (F_X2_deny_0_85_r rfl).trans ((F_X2_deny_42_85_r rfl).trans (ftl_X2_deny_73))
theorem ft_X2_deny_76 : F_X2_deny 76 = J_iconst 1 77 := (F_X2_deny_0_85_r rfl).trans ((F_X2_deny_42_85_r rfl).trans (ftl_X2_deny_76))
theorem ft_X2_deny_77 : F_X2_deny 77 = J_zreturn 0 0 := (F_X2_deny_0_85_r rfl).trans ((F_X2_deny_42_85_r rfl).trans (ftl_X2_deny_77))
theorem ft_X2_deny_78 : F_X2_deny 78 = J_iinc 4 1 81 := (F_X2_deny_0_85_r rfl).trans ((F_X2_deny_42_85_r rfl).trans (ftl_X2_deny_78))
theorem ft_X2_deny_81 : F_X2_deny 81 = J_goto 3 := (F_X2_deny_0_85_r rfl).trans ((F_X2_deny_42_85_r rfl).trans (ftl_X2_deny_81))
theorem ft_X2_deny_84 : F_X2_deny 84 = J_iconst 0 85 := (F_X2_deny_0_85_r rfl).trans ((F_X2_deny_42_85_r rfl).trans (ftl_X2_deny_84))
theorem ft_X2_deny_85 : F_X2_deny 85 = J_zreturn 0 0 := (F_X2_deny_0_85_r rfl).trans ((F_X2_deny_42_85_r rfl).trans (ftl_X2_deny_85))
theorem lp_X2_deny {Q : jQ} {C : Nat → Nat → Int32} {z : Nat → Int64} {nb P ct : Nat} {n : Int32} (hct : C 60 3 = nI ct) (h6 : ct ≤ 6) :
    ∀ k j, j + k = ct → ∀ o : Option Value, Q (some (.int (zb (dnyF C P n (C 12) k j)))) (memS 94 C z) → Rn Y_X2_deny none Q 3 [some (.ref 60), some (.ref 12), some (.int n), some (.int (nI P)), some (.int (nI j)), o] [] (memS 94 C z) (nb, 0, 0) := by
  intro k
  induction k with
  | zero =>
    intro j hj o h
    have hc : (nI ct ≤ nI j) = True := eq_true (nI_le (by omega) (by omega))
    refine jrun_first OK_X2_deny (C := [3]) 60 ?_
    simp -implicitDefEqProofs only [jr_0, jr_1, jr_2, j_iconst, j_lconst, j_iload0, j_aload0, j_istore0, j_astore0, j_iinc0, j_iload1, j_aload1, j_istore1, j_astore1, j_iinc1, j_iload2, j_aload2, j_istore2, j_astore2, j_iinc2, j_iload3, j_aload3, j_istore3, j_astore3, j_iinc3, j_iload4, j_aload4, j_istore4, j_astore4, j_iinc4, j_iload5, j_aload5, j_istore5, j_astore5, j_iinc5, j_iload6, j_aload6, j_istore6, j_astore6, j_iinc6, j_iload7, j_aload7, j_istore7, j_astore7, j_iinc7, j_iload8, j_aload8, j_istore8, j_astore8, j_iinc8, j_iadd, j_isub, j_imul, j_iand, j_ior, j_ixor, j_ishl, j_ishr, j_iushr, j_idiv, j_irem, j_ineg, j_ladd, j_lmul, j_land, j_lor, j_lcmp, j_lushr, j_lshl, j_i2l, j_l2i, j_dupI, j_dupR, j_popI, j_dup2, j_ifeq, j_iceq, j_ifne, j_icne, j_iflt, j_iclt, j_ifge, j_icge, j_ifgt, j_icgt, j_ifle, j_icle, j_goto, j_tsw, j_sw0, j_sw1, j_ireturn, j_zreturn, j_lreturn, j_return, j_getfield, j_putI, j_putJ, j_putR, j_iaload, j_baload, j_iastore, j_bastore, j_aaload, j_q, j_aastore, j_acopy, j_mmin, j_mmax, j_mabs, j_objinit, j_new, j_newI, j_newQ, j_sld, j_slen, j_callV0, j_callI0, j_callS0, j_callV1, j_callI1, j_callS1, j_callV2, j_callI2, j_callS2, j_callV3, j_callS3, j_callV4, j_callS4, j_callV5, j_callS5, j_pushS, j_pushN, j_sh0, j_sh1, j_sh2, j_sh3, j_sh4, Int32.reduceAdd, Int32.reduceMul, Int32.reduceSub, Int32.reduceLT, Int32.reduceLE, eq_self, i32_10, i32_01, ne_eq, hrow_s, hrow_n, ne10, ne100, ne1000, ne7, ne4, ne14, ne9973, or_true, true_or, or_false, false_or, not_true_eq_false, not_false_eq_true, false_implies, implies_true, and_true, forall_const, true_implies, jargs_n, jargs_r, jargs_i, List.cons_append, List.nil_append, true_and, Nat.reduceEqDiff, reduceIte, ft_X2_deny_0, ft_X2_deny_1, ft_X2_deny_3, ft_X2_deny_5, ft_X2_deny_6, ft_X2_deny_9, ft_X2_deny_12, ft_X2_deny_14, ft_X2_deny_16, ft_X2_deny_19, ft_X2_deny_20, ft_X2_deny_23, ft_X2_deny_25, ft_X2_deny_26, ft_X2_deny_27, ft_X2_deny_30, ft_X2_deny_31, ft_X2_deny_34, ft_X2_deny_36, ft_X2_deny_37, ft_X2_deny_38, ft_X2_deny_41, ft_X2_deny_42, ft_X2_deny_45, ft_X2_deny_46, ft_X2_deny_48, ft_X2_deny_50, ft_X2_deny_53, ft_X2_deny_54, ft_X2_deny_55, ft_X2_deny_58, ft_X2_deny_60, ft_X2_deny_61, ft_X2_deny_63, ft_X2_deny_66, ft_X2_deny_67, ft_X2_deny_70, ft_X2_deny_72, ft_X2_deny_73, ft_X2_deny_76, ft_X2_deny_77, ft_X2_deny_78, ft_X2_deny_81, ft_X2_deny_84, ft_X2_deny_85, fl_60_3, hct, hc]
    unfold dnyF at h
    rw [zb_f not_false] at h
    exact h
  | succ k ih =>
    intro j hj o h
    have hc : (nI ct ≤ nI j) = False := eq_false (nI_ge (by omega) (by omega))
    have hc6 : (6 ≤ nI j) = False := eq_false (nI_ge (b := 6) (by omega) (by decide))
    have v1 : vp_in (nI j) 6 := vp_in_nI (by omega) (by decide)
    refine jrun_first OK_X2_deny (C := [3]) 60 ?_
    simp -implicitDefEqProofs only [jr_0, jr_1, jr_2, j_iconst, j_lconst, j_iload0, j_aload0, j_istore0, j_astore0, j_iinc0, j_iload1, j_aload1, j_istore1, j_astore1, j_iinc1, j_iload2, j_aload2, j_istore2, j_astore2, j_iinc2, j_iload3, j_aload3, j_istore3, j_astore3, j_iinc3, j_iload4, j_aload4, j_istore4, j_astore4, j_iinc4, j_iload5, j_aload5, j_istore5, j_astore5, j_iinc5, j_iload6, j_aload6, j_istore6, j_astore6, j_iinc6, j_iload7, j_aload7, j_istore7, j_astore7, j_iinc7, j_iload8, j_aload8, j_istore8, j_astore8, j_iinc8, j_iadd, j_isub, j_imul, j_iand, j_ior, j_ixor, j_ishl, j_ishr, j_iushr, j_idiv, j_irem, j_ineg, j_ladd, j_lmul, j_land, j_lor, j_lcmp, j_lushr, j_lshl, j_i2l, j_l2i, j_dupI, j_dupR, j_popI, j_dup2, j_ifeq, j_iceq, j_ifne, j_icne, j_iflt, j_iclt, j_ifge, j_icge, j_ifgt, j_icgt, j_ifle, j_icle, j_goto, j_tsw, j_sw0, j_sw1, j_ireturn, j_zreturn, j_lreturn, j_return, j_getfield, j_putI, j_putJ, j_putR, j_iaload, j_baload, j_iastore, j_bastore, j_aaload, j_q, j_aastore, j_acopy, j_mmin, j_mmax, j_mabs, j_objinit, j_new, j_newI, j_newQ, j_sld, j_slen, j_callV0, j_callI0, j_callS0, j_callV1, j_callI1, j_callS1, j_callV2, j_callI2, j_callS2, j_callV3, j_callS3, j_callV4, j_callS4, j_callV5, j_callS5, j_pushS, j_pushN, j_sh0, j_sh1, j_sh2, j_sh3, j_sh4, Int32.reduceAdd, Int32.reduceMul, Int32.reduceSub, Int32.reduceLT, Int32.reduceLE, eq_self, i32_10, i32_01, ne_eq, hrow_s, hrow_n, ne10, ne100, ne1000, ne7, ne4, ne14, ne9973, or_true, true_or, or_false, false_or, not_true_eq_false, not_false_eq_true, false_implies, implies_true, and_true, forall_const, true_implies, jargs_n, jargs_r, jargs_i, List.cons_append, List.nil_append, true_and, Nat.reduceEqDiff, reduceIte, ft_X2_deny_0, ft_X2_deny_1, ft_X2_deny_3, ft_X2_deny_5, ft_X2_deny_6, ft_X2_deny_9, ft_X2_deny_12, ft_X2_deny_14, ft_X2_deny_16, ft_X2_deny_19, ft_X2_deny_20, ft_X2_deny_23, ft_X2_deny_25, ft_X2_deny_26, ft_X2_deny_27, ft_X2_deny_30, ft_X2_deny_31, ft_X2_deny_34, ft_X2_deny_36, ft_X2_deny_37, ft_X2_deny_38, ft_X2_deny_41, ft_X2_deny_42, ft_X2_deny_45, ft_X2_deny_46, ft_X2_deny_48, ft_X2_deny_50, ft_X2_deny_53, ft_X2_deny_54, ft_X2_deny_55, ft_X2_deny_58, ft_X2_deny_60, ft_X2_deny_61, ft_X2_deny_63, ft_X2_deny_66, ft_X2_deny_67, ft_X2_deny_70, ft_X2_deny_72, ft_X2_deny_73, ft_X2_deny_76, ft_X2_deny_77, ft_X2_deny_78, ft_X2_deny_81, ft_X2_deny_84, ft_X2_deny_85, fl_60_0, fl_60_1, fl_60_2, fl_60_3, al_61, al_62, al_63, hct, hc, hc6, v1, nI_1, jrcv_st js_12, s_X4_get js_12, nI_clamp (show j < 2 ^ 31 by omega)]
    unfold dnyF dny1 at h
    by_cases h1 : C 62 j = n
    · by_cases h2 : C 61 j < nI P
      · by_cases h3 : rget (C 12) (C 61 j) 7 = C 63 j
        · rw [show (C 62 j = n ∧ C 61 j < nI P ∧ ¬ rget (C 12) (C 61 j) 7 = C 63 j ∨ dnyF C P n (C 12) k (j + 1)) = dnyF C P n (C 12) k (j + 1) by simp [h3]] at h
          simp only [h1, h2, h3, Int32.not_le.mpr h2, not_true_eq_false, not_false_eq_true, true_implies, false_implies, implies_true, and_true, true_and, forall_const]
          exact ih (j + 1) (by omega) _ h
        · rw [zb_t (Or.inl ⟨h1, h2, h3⟩)] at h
          simp only [h1, h2, h3, Int32.not_le.mpr h2, not_true_eq_false, not_false_eq_true, true_implies, false_implies, implies_true, and_true, true_and, forall_const]
          exact h
      · rw [show (C 62 j = n ∧ C 61 j < nI P ∧ ¬ rget (C 12) (C 61 j) 7 = C 63 j ∨ dnyF C P n (C 12) k (j + 1)) = dnyF C P n (C 12) k (j + 1) by simp [h2]] at h
        simp only [h1, h2, Int32.not_lt.mp h2, not_true_eq_false, not_false_eq_true, true_implies, false_implies, implies_true, and_true, true_and, forall_const]
        exact ih (j + 1) (by omega) _ h
    · rw [show (C 62 j = n ∧ C 61 j < nI P ∧ ¬ rget (C 12) (C 61 j) 7 = C 63 j ∨ dnyF C P n (C 12) k (j + 1)) = dnyF C P n (C 12) k (j + 1) by simp [h1]] at h
      simp only [h1, not_true_eq_false, not_false_eq_true, true_implies, false_implies, implies_true, and_true, true_and, forall_const]
      exact ih (j + 1) (by omega) _ h
theorem ok_X2_deny : jMeets Y_X2_deny S_X2_deny := by
  intro nb vs mem Q h
  obtain ⟨C, z, P, ct, n, rfl, rfl, hct, h6, hQ⟩ := h
  refine Ok.run OK_X2_deny [3] 60 [none, none] pn2 (Nat.le_of_ble_eq_true rfl) rfl ?_
  simp -implicitDefEqProofs only [jr_0, jr_1, jr_2, j_iconst, j_lconst, j_iload0, j_aload0, j_istore0, j_astore0, j_iinc0, j_iload1, j_aload1, j_istore1, j_astore1, j_iinc1, j_iload2, j_aload2, j_istore2, j_astore2, j_iinc2, j_iload3, j_aload3, j_istore3, j_astore3, j_iinc3, j_iload4, j_aload4, j_istore4, j_astore4, j_iinc4, j_iload5, j_aload5, j_istore5, j_astore5, j_iinc5, j_iload6, j_aload6, j_istore6, j_astore6, j_iinc6, j_iload7, j_aload7, j_istore7, j_astore7, j_iinc7, j_iload8, j_aload8, j_istore8, j_astore8, j_iinc8, j_iadd, j_isub, j_imul, j_iand, j_ior, j_ixor, j_ishl, j_ishr, j_iushr, j_idiv, j_irem, j_ineg, j_ladd, j_lmul, j_land, j_lor, j_lcmp, j_lushr, j_lshl, j_i2l, j_l2i, j_dupI, j_dupR, j_popI, j_dup2, j_ifeq, j_iceq, j_ifne, j_icne, j_iflt, j_iclt, j_ifge, j_icge, j_ifgt, j_icgt, j_ifle, j_icle, j_goto, j_tsw, j_sw0, j_sw1, j_ireturn, j_zreturn, j_lreturn, j_return, j_getfield, j_putI, j_putJ, j_putR, j_iaload, j_baload, j_iastore, j_bastore, j_aaload, j_q, j_aastore, j_acopy, j_mmin, j_mmax, j_mabs, j_objinit, j_new, j_newI, j_newQ, j_sld, j_slen, j_callV0, j_callI0, j_callS0, j_callV1, j_callI1, j_callS1, j_callV2, j_callI2, j_callS2, j_callV3, j_callS3, j_callV4, j_callS4, j_callV5, j_callS5, j_pushS, j_pushN, j_sh0, j_sh1, j_sh2, j_sh3, j_sh4, Int32.reduceAdd, Int32.reduceMul, Int32.reduceSub, Int32.reduceLT, Int32.reduceLE, eq_self, i32_10, i32_01, ne_eq, hrow_s, hrow_n, ne10, ne100, ne1000, ne7, ne4, ne14, ne9973, or_true, true_or, or_false, false_or, not_true_eq_false, not_false_eq_true, false_implies, implies_true, and_true, forall_const, true_implies, jargs_n, jargs_r, jargs_i, List.cons_append, List.nil_append, true_and, Nat.reduceEqDiff, reduceIte, ft_X2_deny_0, ft_X2_deny_1, ft_X2_deny_3, ft_X2_deny_5, ft_X2_deny_6, ft_X2_deny_9, ft_X2_deny_12, ft_X2_deny_14, ft_X2_deny_16, ft_X2_deny_19, ft_X2_deny_20, ft_X2_deny_23, ft_X2_deny_25, ft_X2_deny_26, ft_X2_deny_27, ft_X2_deny_30, ft_X2_deny_31, ft_X2_deny_34, ft_X2_deny_36, ft_X2_deny_37, ft_X2_deny_38, ft_X2_deny_41, ft_X2_deny_42, ft_X2_deny_45, ft_X2_deny_46, ft_X2_deny_48, ft_X2_deny_50, ft_X2_deny_53, ft_X2_deny_54, ft_X2_deny_55, ft_X2_deny_58, ft_X2_deny_60, ft_X2_deny_61, ft_X2_deny_63, ft_X2_deny_66, ft_X2_deny_67, ft_X2_deny_70, ft_X2_deny_72, ft_X2_deny_73, ft_X2_deny_76, ft_X2_deny_77, ft_X2_deny_78, ft_X2_deny_81, ft_X2_deny_84, ft_X2_deny_85]
  exact lp_X2_deny hct h6 ct 0 (by omega) none hQ
theorem dnyF_c {C C' : Nat → Nat → Int32} {P : Nat} {n : Int32} {ρ : Nat → Int32} (h1 : C' 61 = C 61) (h2 : C' 62 = C 62) (h3 : C' 63 = C 63) : ∀ k i, dnyF C' P n ρ k i = dnyF C P n ρ k i
  | 0, _ => rfl
  | k + 1, i => by unfold dnyF dny1; rw [h1, h2, h3, dnyF_c h1 h2 h3]
theorem s_denyH {nb P ct : Nat} {C C' : Nat → Nat → Int32} {z : Nat → Int64} {n : Int32} {Q : jQ} (v : Hv C C') (hct : C 60 3 = nI ct) (h6 : ct ≤ 6) (hQ : Q (some (.int (zb (dnyF C P n (C' 12) ct 0)))) (memS 94 C' z)) : S_X2_deny nb [.ref 60, .ref 12, .int n, .int (nI P)] (memS 94 C' z) Q :=
  ⟨C', z, P, ct, n, rfl, rfl, by rw [v.r 60 rfl]; exact hct, h6, by rw [dnyF_c (v.r 61 rfl) (v.r 62 rfl) (v.r 63 rfl)]; exact hQ⟩
def mlF (C : Nat → Nat → Int32) (P ct : Nat) (l : Int32) : Nat → Nat → (Nat → Int32) → Prop
  | 0, _, _ => True
  | k + 1, j, ρ => ¬ dnyF C P (nI j) ρ ct 0 ∧ mlF C P ct l k (j + 1) (goF C 0 15 l 1 ρ)
def S_X6_mayLie : jSp := fun _ vs mem Q => ∃ C C1 z P ct, ∃ l : Int32, vs = [.ref 0, .int l] ∧ mem = memS 94 C1 z ∧ RC C P ∧ Hv C C1 ∧ C 60 3 = nI ct ∧ ct ≤ 6 ∧ ∀ C', Hv C C' → Q (some (.int (zb (mlF C P ct l 21 0 (C 9))))) (memS 94 C' z)
def F_X6_mayLie_0 : Nat → jT := fun pc => (bif Nat.blt pc 8 then (bif Nat.blt pc 4 then (bif Nat.blt pc 1 then (bif Nat.beq pc 0 then J_aload 0 1 else jbad) else (bif Nat.beq pc 1 then J_getfield 6 4 4 else jbad)) else (bif Nat.blt pc 5 then (bif Nat.beq pc 4 then J_aload 0 5 else jbad) else (bif Nat.beq pc 5 then J_getfield 6 3 8 else jbad))) else (bif Nat.blt pc 12 then (bif Nat.blt pc 11 then (bif Nat.beq pc 8 then J_callV 4 S_X4_take 1 11 else jbad) else (bif Nat.beq pc 11 then J_iconst 0 12 else jbad)) else (bif Nat.blt pc 13 then (bif Nat.beq pc 12 then J_istore 2 13 else jbad) else (bif Nat.beq pc 13 then J_iload 2 14 else jbad))))
theorem ftl_X6_mayLie_0 : F_X6_mayLie_0 0 = J_aload 0 1 := rfl
theorem ftl_X6_mayLie_1 : F_X6_mayLie_0 1 = J_getfield 6 4 4 := rfl
theorem ftl_X6_mayLie_4 : F_X6_mayLie_0 4 = J_aload 0 5 := rfl
theorem ftl_X6_mayLie_5 : F_X6_mayLie_0 5 = J_getfield 6 3 8 := rfl
theorem ftl_X6_mayLie_8 : F_X6_mayLie_0 8 = J_callV 4 S_X4_take 1 11 := rfl
theorem ftl_X6_mayLie_11 : F_X6_mayLie_0 11 = J_iconst 0 12 := rfl
theorem ftl_X6_mayLie_12 : F_X6_mayLie_0 12 = J_istore 2 13 := rfl
theorem ftl_X6_mayLie_13 : F_X6_mayLie_0 13 = J_iload 2 14 := rfl
theorem F_X6_mayLie_0_ok : jOK Y_X6_mayLie none (F_X6_mayLie_0) := (jOK_node (jOK_node (jOK_node (jOK_leaf (sn_aload_n dX6_mayLie_0 rfl rfl)) (jOK_leaf (sn_getfield dX6_mayLie_1 rfl rfl (by decide) tw_170 jin6))) (jOK_node (jOK_leaf (sn_aload_n dX6_mayLie_4 rfl rfl)) (jOK_leaf (sn_getfield dX6_mayLie_5 rfl rfl (by decide) tw_169 jin6)))) (jOK_node (jOK_node (jOK_leaf (sn_callV (Y' := Y_X4_take) ok_X4_take dX6_mayLie_8 rfl rfl rfl tw_331 tw_332 tw_333 tw_5 jc_X4_take rfl ⟨by decide, by decide, rfl⟩ ⟨by decide, by decide⟩)) (jOK_leaf (sn_iconst dX6_mayLie_11 rfl rfl))) (jOK_node (jOK_leaf (sn_istore_n dX6_mayLie_12 rfl rfl (by decide))) (jOK_leaf (sn_iload_n dX6_mayLie_13 rfl rfl)))))
def F_X6_mayLie_14 : Nat → jT := fun pc => (bif Nat.blt pc 23 then (bif Nat.blt pc 19 then (bif Nat.blt pc 16 then (bif Nat.beq pc 14 then J_iconst 20 16 else jbad) else (bif Nat.beq pc 16 then J_icgt 65 19 else jbad)) else (bif Nat.blt pc 20 then (bif Nat.beq pc 19 then J_aload 0 20 else jbad) else (bif Nat.beq pc 20 then J_getfield 6 7 23 else jbad))) else (bif Nat.blt pc 27 then (bif Nat.blt pc 24 then (bif Nat.beq pc 23 then J_aload 0 24 else jbad) else (bif Nat.beq pc 24 then J_getfield 6 4 27 else jbad)) else (bif Nat.blt pc 28 then (bif Nat.beq pc 27 then J_iload 2 28 else jbad) else (bif Nat.blt pc 29 then (bif Nat.beq pc 28 then J_aload 0 29 else jbad) else (bif Nat.beq pc 29 then J_getfield 6 1 32 else jbad)))))
theorem ftl_X6_mayLie_14 : F_X6_mayLie_14 14 = J_iconst 20 16 := rfl
theorem ftl_X6_mayLie_16 : F_X6_mayLie_14 16 = J_icgt 65 19 := rfl
theorem ftl_X6_mayLie_19 : F_X6_mayLie_14 19 = J_aload 0 20 := rfl
theorem ftl_X6_mayLie_20 : F_X6_mayLie_14 20 = J_getfield 6 7 23 := rfl
theorem ftl_X6_mayLie_23 : F_X6_mayLie_14 23 = J_aload 0 24 := rfl
theorem ftl_X6_mayLie_24 : F_X6_mayLie_14 24 = J_getfield 6 4 27 := rfl
theorem ftl_X6_mayLie_27 : F_X6_mayLie_14 27 = J_iload 2 28 := rfl
theorem ftl_X6_mayLie_28 : F_X6_mayLie_14 28 = J_aload 0 29 := rfl
theorem ftl_X6_mayLie_29 : F_X6_mayLie_14 29 = J_getfield 6 1 32 := rfl
theorem F_X6_mayLie_14_ok : jOK Y_X6_mayLie none (F_X6_mayLie_14) := (jOK_node (jOK_node (jOK_node (jOK_leaf (sn_bipush dX6_mayLie_14 rfl rfl)) (jOK_leaf (sn_icgt dX6_mayLie_16 rfl rfl))) (jOK_node (jOK_leaf (sn_aload_n dX6_mayLie_19 rfl rfl)) (jOK_leaf (sn_getfield dX6_mayLie_20 rfl rfl (by decide) tw_173 jin6)))) (jOK_node (jOK_node (jOK_leaf (sn_aload_n dX6_mayLie_23 rfl rfl)) (jOK_leaf (sn_getfield dX6_mayLie_24 rfl rfl (by decide) tw_170 jin6))) (jOK_node (jOK_leaf (sn_iload_n dX6_mayLie_27 rfl rfl)) (jOK_node (jOK_leaf (sn_aload_n dX6_mayLie_28 rfl rfl)) (jOK_leaf (sn_getfield dX6_mayLie_29 rfl rfl (by decide) tw_167 jin6))))))
def F_X6_mayLie_0_29 : Nat → jT := fun pc => bif Nat.blt pc 14 then F_X6_mayLie_0 pc else F_X6_mayLie_14 pc
theorem F_X6_mayLie_0_29_l {pc : Nat} (h : Nat.blt pc 14 = true) : F_X6_mayLie_0_29 pc = F_X6_mayLie_0 pc := by unfold F_X6_mayLie_0_29; rw [h]; rfl
theorem F_X6_mayLie_0_29_r {pc : Nat} (h : Nat.blt pc 14 = false) : F_X6_mayLie_0_29 pc = F_X6_mayLie_14 pc := by unfold F_X6_mayLie_0_29; rw [h]; rfl
theorem F_X6_mayLie_0_29_ok : jOK Y_X6_mayLie none (F_X6_mayLie_0_29) := jOK_node (F_X6_mayLie_0_ok) (F_X6_mayLie_14_ok)
def F_X6_mayLie_32 : Nat → jT := fun pc => (bif Nat.blt pc 42 then (bif Nat.blt pc 38 then (bif Nat.blt pc 35 then (bif Nat.beq pc 32 then J_getfield 3 2 35 else jbad) else (bif Nat.beq pc 35 then J_callV 2 S_X2_deny 3 38 else jbad)) else (bif Nat.blt pc 41 then (bif Nat.beq pc 38 then J_ifeq 43 41 else jbad) else (bif Nat.beq pc 41 then J_iconst 0 42 else jbad))) else (bif Nat.blt pc 44 then (bif Nat.blt pc 43 then (bif Nat.beq pc 42 then J_zreturn 0 0 else jbad) else (bif Nat.beq pc 43 then J_aload 0 44 else jbad)) else (bif Nat.blt pc 47 then (bif Nat.beq pc 44 then J_getfield 6 2 47 else jbad) else (bif Nat.blt pc 48 then (bif Nat.beq pc 47 then J_aload 0 48 else jbad) else (bif Nat.beq pc 48 then J_getfield 6 4 51 else jbad)))))
theorem ftl_X6_mayLie_32 : F_X6_mayLie_32 32 = J_getfield 3 2 35 := rfl
theorem ftl_X6_mayLie_35 : F_X6_mayLie_32 35 = J_callV 2 S_X2_deny 3 38 := rfl
theorem ftl_X6_mayLie_38 : F_X6_mayLie_32 38 = J_ifeq 43 41 := rfl
theorem ftl_X6_mayLie_41 : F_X6_mayLie_32 41 = J_iconst 0 42 := rfl
theorem ftl_X6_mayLie_42 : F_X6_mayLie_32 42 = J_zreturn 0 0 := rfl
theorem ftl_X6_mayLie_43 : F_X6_mayLie_32 43 = J_aload 0 44 := rfl
theorem ftl_X6_mayLie_44 : F_X6_mayLie_32 44 = J_getfield 6 2 47 := rfl
theorem ftl_X6_mayLie_47 : F_X6_mayLie_32 47 = J_aload 0 48 := rfl
theorem ftl_X6_mayLie_48 : F_X6_mayLie_32 48 = J_getfield 6 4 51 := rfl
theorem F_X6_mayLie_32_ok : jOK Y_X6_mayLie none (F_X6_mayLie_32) := (jOK_node (jOK_node (jOK_node (jOK_leaf (sn_getfield dX6_mayLie_32 rfl rfl (by decide) tw_45 jin3)) (jOK_leaf (sn_callV (Y' := Y_X2_deny) ok_X2_deny dX6_mayLie_35 rfl rfl rfl tw_551 tw_552 tw_553 tw_7 jc_X2_deny rfl ⟨by decide, by decide, rfl⟩ ⟨by decide, by decide⟩))) (jOK_node (jOK_leaf (sn_ifeq dX6_mayLie_38 rfl rfl)) (jOK_leaf (sn_iconst dX6_mayLie_41 rfl rfl)))) (jOK_node (jOK_node (jOK_leaf (sn_zreturn dX6_mayLie_42 rfl rfl)) (jOK_leaf (sn_aload_n dX6_mayLie_43 rfl rfl))) (jOK_node (jOK_leaf (sn_getfield dX6_mayLie_44 rfl rfl (by decide) tw_168 jin6)) (jOK_node (jOK_leaf (sn_aload_n dX6_mayLie_47 rfl rfl)) (jOK_leaf (sn_getfield dX6_mayLie_48 rfl rfl (by decide) tw_170 jin6))))))
def F_X6_mayLie_51 : Nat → jT := fun pc => (bif Nat.blt pc 56 then (bif Nat.blt pc 53 then (bif Nat.blt pc 52 then (bif Nat.beq pc 51 then J_iconst 1 52 else jbad) else (bif Nat.beq pc 52 then J_iconst 0 53 else jbad)) else (bif Nat.blt pc 55 then (bif Nat.beq pc 53 then J_iconst 15 55 else jbad) else (bif Nat.beq pc 55 then J_iload 1 56 else jbad))) else (bif Nat.blt pc 62 then (bif Nat.blt pc 59 then (bif Nat.beq pc 56 then J_callV 0 S_X0_pass 5 59 else jbad) else (bif Nat.beq pc 59 then J_iinc 2 1 62 else jbad)) else (bif Nat.blt pc 65 then (bif Nat.beq pc 62 then J_goto 13 else jbad) else (bif Nat.blt pc 66 then (bif Nat.beq pc 65 then J_iconst 1 66 else jbad) else (bif Nat.beq pc 66 then J_zreturn 0 0 else jbad)))))
theorem ftl_X6_mayLie_51 : F_X6_mayLie_51 51 = J_iconst 1 52 := rfl
theorem ftl_X6_mayLie_52 : F_X6_mayLie_51 52 = J_iconst 0 53 := rfl
theorem ftl_X6_mayLie_53 : F_X6_mayLie_51 53 = J_iconst 15 55 := rfl
theorem ftl_X6_mayLie_55 : F_X6_mayLie_51 55 = J_iload 1 56 := rfl
theorem ftl_X6_mayLie_56 : F_X6_mayLie_51 56 = J_callV 0 S_X0_pass 5 59 := rfl
theorem ftl_X6_mayLie_59 : F_X6_mayLie_51 59 = J_iinc 2 1 62 := rfl
theorem ftl_X6_mayLie_62 : F_X6_mayLie_51 62 = J_goto 13 := rfl
theorem ftl_X6_mayLie_65 : F_X6_mayLie_51 65 = J_iconst 1 66 := rfl
theorem ftl_X6_mayLie_66 : F_X6_mayLie_51 66 = J_zreturn 0 0 := rfl
theorem F_X6_mayLie_51_ok : jOK Y_X6_mayLie none (F_X6_mayLie_51) := (jOK_node (jOK_node (jOK_node (jOK_leaf (sn_iconst dX6_mayLie_51 rfl rfl)) (jOK_leaf (sn_iconst dX6_mayLie_52 rfl rfl))) (jOK_node (jOK_leaf (sn_bipush dX6_mayLie_53 rfl rfl)) (jOK_leaf (sn_iload_n dX6_mayLie_55 rfl rfl)))) (jOK_node (jOK_node (jOK_leaf (sn_callV (Y' := Y_X0_pass) ok_X0_pass dX6_mayLie_56 rfl rfl rfl tw_483 tw_343 tw_344 tw_4 jc_X0_pass rfl ⟨by decide, by decide, rfl⟩ ⟨by decide, by decide⟩)) (jOK_leaf (sn_iinc dX6_mayLie_59 rfl rfl (by decide)))) (jOK_node (jOK_leaf (sn_goto dX6_mayLie_62 rfl)) (jOK_node (jOK_leaf (sn_iconst dX6_mayLie_65 rfl rfl)) (jOK_leaf (sn_zreturn dX6_mayLie_66 rfl rfl))))))
def F_X6_mayLie_32_66 : Nat → jT := fun pc => bif Nat.blt pc 51 then F_X6_mayLie_32 pc else F_X6_mayLie_51 pc
theorem F_X6_mayLie_32_66_l {pc : Nat} (h : Nat.blt pc 51 = true) : F_X6_mayLie_32_66 pc = F_X6_mayLie_32 pc := by unfold F_X6_mayLie_32_66; rw [h]; rfl
theorem F_X6_mayLie_32_66_r {pc : Nat} (h : Nat.blt pc 51 = false) : F_X6_mayLie_32_66 pc = F_X6_mayLie_51 pc := by unfold F_X6_mayLie_32_66; rw [h]; rfl
theorem F_X6_mayLie_32_66_ok : jOK Y_X6_mayLie none (F_X6_mayLie_32_66) := jOK_node (F_X6_mayLie_32_ok) (F_X6_mayLie_51_ok)
def F_X6_mayLie_0_66 : Nat → jT := fun pc => bif Nat.blt pc 32 then F_X6_mayLie_0_29 pc else F_X6_mayLie_32_66 pc
theorem F_X6_mayLie_0_66_l {pc : Nat} (h : Nat.blt pc 32 = true) : F_X6_mayLie_0_66 pc = F_X6_mayLie_0_29 pc := by unfold F_X6_mayLie_0_66; rw [h]; rfl
theorem F_X6_mayLie_0_66_r {pc : Nat} (h : Nat.blt pc 32 = false) : F_X6_mayLie_0_66 pc = F_X6_mayLie_32_66 pc := by unfold F_X6_mayLie_0_66; rw [h]; rfl
theorem F_X6_mayLie_0_66_ok : jOK Y_X6_mayLie none (F_X6_mayLie_0_66) := jOK_node (F_X6_mayLie_0_29_ok) (F_X6_mayLie_32_66_ok)
def F_X6_mayLie : Nat → jT := F_X6_mayLie_0_66
theorem OK_X6_mayLie : jOK Y_X6_mayLie none (F_X6_mayLie) := F_X6_mayLie_0_66_ok
theorem ft_X6_mayLie_0 : F_X6_mayLie 0 = J_aload 0 1 := (F_X6_mayLie_0_66_l rfl).trans ((F_X6_mayLie_0_29_l rfl).trans (ftl_X6_mayLie_0))
theorem ft_X6_mayLie_1 : F_X6_mayLie 1 = J_getfield 6 4 4 := (F_X6_mayLie_0_66_l rfl).trans ((F_X6_mayLie_0_29_l rfl).trans (ftl_X6_mayLie_1))
theorem ft_X6_mayLie_4 : F_X6_mayLie 4 = J_aload 0 5 := (F_X6_mayLie_0_66_l rfl).trans ((F_X6_mayLie_0_29_l rfl).trans (ftl_X6_mayLie_4))
theorem ft_X6_mayLie_5 : F_X6_mayLie 5 = J_getfield 6 3 8 := (F_X6_mayLie_0_66_l rfl).trans ((F_X6_mayLie_0_29_l rfl).trans (ftl_X6_mayLie_5))
theorem ft_X6_mayLie_8 : F_X6_mayLie 8 = J_callV 4 S_X4_take 1 11 := (F_X6_mayLie_0_66_l rfl).trans ((F_X6_mayLie_0_29_l rfl).trans (ftl_X6_mayLie_8))
theorem ft_X6_mayLie_11 : F_X6_mayLie 11 = J_iconst 0 12 := (F_X6_mayLie_0_66_l rfl).trans ((F_X6_mayLie_0_29_l rfl).trans (ftl_X6_mayLie_11))
theorem ft_X6_mayLie_12 : F_X6_mayLie 12 = J_istore 2 13 := (F_X6_mayLie_0_66_l rfl).trans ((F_X6_mayLie_0_29_l rfl).trans (ftl_X6_mayLie_12))
theorem ft_X6_mayLie_13 : F_X6_mayLie 13 = J_iload 2 14 := (F_X6_mayLie_0_66_l rfl).trans ((F_X6_mayLie_0_29_l rfl).trans (ftl_X6_mayLie_13))
theorem ft_X6_mayLie_14 : F_X6_mayLie 14 = J_iconst 20 16 := (F_X6_mayLie_0_66_l rfl).trans ((F_X6_mayLie_0_29_r rfl).trans (ftl_X6_mayLie_14))
theorem ft_X6_mayLie_16 : F_X6_mayLie 16 = J_icgt 65 19 := (F_X6_mayLie_0_66_l rfl).trans ((F_X6_mayLie_0_29_r rfl).trans (ftl_X6_mayLie_16))
theorem ft_X6_mayLie_19 : F_X6_mayLie 19 = J_aload 0 20 := (F_X6_mayLie_0_66_l rfl).trans ((F_X6_mayLie_0_29_r rfl).trans (ftl_X6_mayLie_19))
theorem ft_X6_mayLie_20 : F_X6_mayLie 20 = J_getfield 6 7 23 := (F_X6_mayLie_0_66_l rfl).trans ((F_X6_mayLie_0_29_r rfl).trans (ftl_X6_mayLie_20))
theorem ft_X6_mayLie_23 : F_X6_mayLie 23 = J_aload 0 24 := (F_X6_mayLie_0_66_l rfl).trans ((F_X6_mayLie_0_29_r rfl).trans (ftl_X6_mayLie_23))
theorem ft_X6_mayLie_24 : F_X6_mayLie 24 = J_getfield 6 4 27 := (F_X6_mayLie_0_66_l rfl).trans ((F_X6_mayLie_0_29_r rfl).trans (ftl_X6_mayLie_24))
theorem ft_X6_mayLie_27 : F_X6_mayLie 27 = J_iload 2 28 := (F_X6_mayLie_0_66_l rfl).trans ((F_X6_mayLie_0_29_r rfl).trans (ftl_X6_mayLie_27))
theorem ft_X6_mayLie_28 : F_X6_mayLie 28 = J_aload 0 29 := (F_X6_mayLie_0_66_l rfl).trans ((F_X6_mayLie_0_29_r rfl).trans (ftl_X6_mayLie_28))
theorem ft_X6_mayLie_29 : F_X6_mayLie 29 = J_getfield 6 1 32 := (F_X6_mayLie_0_66_l rfl).trans ((F_X6_mayLie_0_29_r rfl).trans (ftl_X6_mayLie_29))
theorem ft_X6_mayLie_32 : F_X6_mayLie 32 = J_getfield 3 2 35 := (F_X6_mayLie_0_66_r rfl).trans ((F_X6_mayLie_32_66_l rfl).trans (ftl_X6_mayLie_32))
theorem ft_X6_mayLie_35 : F_X6_mayLie 35 = J_callV 2 S_X2_deny 3 38 := (F_X6_mayLie_0_66_r rfl).trans ((F_X6_mayLie_32_66_l rfl).trans (ftl_X6_mayLie_35))
theorem ft_X6_mayLie_38 : F_X6_mayLie 38 = J_ifeq 43 41 := (F_X6_mayLie_0_66_r rfl).trans ((F_X6_mayLie_32_66_l rfl).trans (ftl_X6_mayLie_38))
theorem ft_X6_mayLie_41 : F_X6_mayLie 41 = J_iconst 0 42 := (F_X6_mayLie_0_66_r rfl).trans ((F_X6_mayLie_32_66_l rfl).trans (ftl_X6_mayLie_41))
theorem ft_X6_mayLie_42 : F_X6_mayLie 42 = J_zreturn 0 0 := (F_X6_mayLie_0_66_r rfl).trans ((F_X6_mayLie_32_66_l rfl).trans (ftl_X6_mayLie_42))
theorem ft_X6_mayLie_43 : F_X6_mayLie 43 = J_aload 0 44 := (F_X6_mayLie_0_66_r rfl).trans ((F_X6_mayLie_32_66_l rfl).trans (ftl_X6_mayLie_43))
theorem ft_X6_mayLie_44 : F_X6_mayLie 44 = J_getfield 6 2 47 := (F_X6_mayLie_0_66_r rfl).trans ((F_X6_mayLie_32_66_l rfl).trans (ftl_X6_mayLie_44))
theorem ft_X6_mayLie_47 : F_X6_mayLie 47 = J_aload 0 48 := (F_X6_mayLie_0_66_r rfl).trans ((F_X6_mayLie_32_66_l rfl).trans (ftl_X6_mayLie_47))
theorem ft_X6_mayLie_48 : F_X6_mayLie 48 = J_getfield 6 4 51 := (F_X6_mayLie_0_66_r rfl).trans ((F_X6_mayLie_32_66_l rfl).trans (ftl_X6_mayLie_48))
theorem ft_X6_mayLie_51 : F_X6_mayLie 51 = J_iconst 1 52 := (F_X6_mayLie_0_66_r rfl).trans ((F_X6_mayLie_32_66_r rfl).trans (ftl_X6_mayLie_51))
theorem ft_X6_mayLie_52 : F_X6_mayLie 52 = J_iconst 0 53 := (F_X6_mayLie_0_66_r rfl).trans ((F_X6_mayLie_32_66_r rfl).trans (ftl_X6_mayLie_52))
theorem ft_X6_mayLie_53 : F_X6_mayLie 53 = J_iconst 15 55 := (F_X6_mayLie_0_66_r rfl).trans ((F_X6_mayLie_32_66_r rfl).trans (ftl_X6_mayLie_53))
theorem ft_X6_mayLie_55 : F_X6_mayLie 55 = J_iload 1 56 := (F_X6_mayLie_0_66_r rfl).trans ((F_X6_mayLie_32_66_r rfl).trans (ftl_X6_mayLie_55))
theorem ft_X6_mayLie_56 : F_X6_mayLie 56 = J_callV 0 S_X0_pass 5 59 := (F_X6_mayLie_0_66_r rfl).trans ((F_X6_mayLie_32_66_r rfl).trans (ftl_X6_mayLie_56))
theorem ft_X6_mayLie_59 : F_X6_mayLie 59 = J_iinc 2 1 62 := (F_X6_mayLie_0_66_r rfl).trans ((F_X6_mayLie_32_66_r rfl).trans (ftl_X6_mayLie_59))
theorem ft_X6_mayLie_62 : F_X6_mayLie 62 = J_goto 13 := (F_X6_mayLie_0_66_r rfl).trans ((F_X6_mayLie_32_66_r rfl).trans (ftl_X6_mayLie_62))
theorem ft_X6_mayLie_65 : F_X6_mayLie 65 = J_iconst 1 66 := (F_X6_mayLie_0_66_r rfl).trans ((F_X6_mayLie_32_66_r rfl).trans (ftl_X6_mayLie_65))
theorem ft_X6_mayLie_66 : F_X6_mayLie 66 = J_zreturn 0 0 := (F_X6_mayLie_0_66_r rfl).trans ((F_X6_mayLie_32_66_r rfl).trans (ftl_X6_mayLie_66))
theorem lp_X6_mayLie {Q : jQ} {C : Nat → Nat → Int32} {z : Nat → Int64} {nb P ct : Nat} {l : Int32} (r : RC C P) (hct : C 60 3 = nI ct) (h6 : ct ≤ 6) :
    ∀ k j, j + k = 21 → ∀ C1, Hv C C1 → (∀ C', Hv C C' → Q (some (.int (zb (mlF C P ct l k j (C1 12))))) (memS 94 C' z)) → Rn Y_X6_mayLie none Q 13 [some (.ref 0), some (.int l), some (.int (nI j))] [] (memS 94 C1 z) (nb, 0, 0) := by
  intro k
  induction k with
  | zero =>
    intro j hj C1 v h
    have hc : (20 < nI j) = True := by rw [show j = 21 by omega]; exact eq_true (by decide)
    refine jrun_first OK_X6_mayLie (C := [13]) 60 ?_
    simp -implicitDefEqProofs only [jr_0, jr_1, jr_2, j_iconst, j_lconst, j_iload0, j_aload0, j_istore0, j_astore0, j_iinc0, j_iload1, j_aload1, j_istore1, j_astore1, j_iinc1, j_iload2, j_aload2, j_istore2, j_astore2, j_iinc2, j_iload3, j_aload3, j_istore3, j_astore3, j_iinc3, j_iload4, j_aload4, j_istore4, j_astore4, j_iinc4, j_iload5, j_aload5, j_istore5, j_astore5, j_iinc5, j_iload6, j_aload6, j_istore6, j_astore6, j_iinc6, j_iload7, j_aload7, j_istore7, j_astore7, j_iinc7, j_iload8, j_aload8, j_istore8, j_astore8, j_iinc8, j_iadd, j_isub, j_imul, j_iand, j_ior, j_ixor, j_ishl, j_ishr, j_iushr, j_idiv, j_irem, j_ineg, j_ladd, j_lmul, j_land, j_lor, j_lcmp, j_lushr, j_lshl, j_i2l, j_l2i, j_dupI, j_dupR, j_popI, j_dup2, j_ifeq, j_iceq, j_ifne, j_icne, j_iflt, j_iclt, j_ifge, j_icge, j_ifgt, j_icgt, j_ifle, j_icle, j_goto, j_tsw, j_sw0, j_sw1, j_ireturn, j_zreturn, j_lreturn, j_return, j_getfield, j_putI, j_putJ, j_putR, j_iaload, j_baload, j_iastore, j_bastore, j_aaload, j_q, j_aastore, j_acopy, j_mmin, j_mmax, j_mabs, j_objinit, j_new, j_newI, j_newQ, j_sld, j_slen, j_callV0, j_callI0, j_callS0, j_callV1, j_callI1, j_callS1, j_callV2, j_callI2, j_callS2, j_callV3, j_callS3, j_callV4, j_callS4, j_callV5, j_callS5, j_pushS, j_pushN, j_sh0, j_sh1, j_sh2, j_sh3, j_sh4, Int32.reduceAdd, Int32.reduceMul, Int32.reduceSub, Int32.reduceLT, Int32.reduceLE, eq_self, i32_10, i32_01, ne_eq, hrow_s, hrow_n, ne10, ne100, ne1000, ne7, ne4, ne14, ne9973, or_true, true_or, or_false, false_or, not_true_eq_false, not_false_eq_true, false_implies, implies_true, and_true, forall_const, true_implies, jargs_n, jargs_r, jargs_i, List.cons_append, List.nil_append, true_and, Nat.reduceEqDiff, reduceIte, ft_X6_mayLie_0, ft_X6_mayLie_1, ft_X6_mayLie_4, ft_X6_mayLie_5, ft_X6_mayLie_8, ft_X6_mayLie_11, ft_X6_mayLie_12, ft_X6_mayLie_13, ft_X6_mayLie_14, ft_X6_mayLie_16, ft_X6_mayLie_19, ft_X6_mayLie_20, ft_X6_mayLie_23, ft_X6_mayLie_24, ft_X6_mayLie_27, ft_X6_mayLie_28, ft_X6_mayLie_29, ft_X6_mayLie_32, ft_X6_mayLie_35, ft_X6_mayLie_38, ft_X6_mayLie_41, ft_X6_mayLie_42, ft_X6_mayLie_43, ft_X6_mayLie_44, ft_X6_mayLie_47, ft_X6_mayLie_48, ft_X6_mayLie_51, ft_X6_mayLie_52, ft_X6_mayLie_53, ft_X6_mayLie_55, ft_X6_mayLie_56, ft_X6_mayLie_59, ft_X6_mayLie_62, ft_X6_mayLie_65, ft_X6_mayLie_66, hc]
    unfold mlF at h
    simp only [zb_t trivial] at h
    exact h C1 v
  | succ k ih =>
    intro j hj C1 v h
    have hc : (20 < nI j) = False := eq_false (nI_nlt (a := 20) (by omega) (by decide))
    unfold mlF at h
    refine jrun_first OK_X6_mayLie (C := [13]) 60 ?_
    simp -implicitDefEqProofs only [jr_0, jr_1, jr_2, j_iconst, j_lconst, j_iload0, j_aload0, j_istore0, j_astore0, j_iinc0, j_iload1, j_aload1, j_istore1, j_astore1, j_iinc1, j_iload2, j_aload2, j_istore2, j_astore2, j_iinc2, j_iload3, j_aload3, j_istore3, j_astore3, j_iinc3, j_iload4, j_aload4, j_istore4, j_astore4, j_iinc4, j_iload5, j_aload5, j_istore5, j_astore5, j_iinc5, j_iload6, j_aload6, j_istore6, j_astore6, j_iinc6, j_iload7, j_aload7, j_istore7, j_astore7, j_iinc7, j_iload8, j_aload8, j_istore8, j_astore8, j_iinc8, j_iadd, j_isub, j_imul, j_iand, j_ior, j_ixor, j_ishl, j_ishr, j_iushr, j_idiv, j_irem, j_ineg, j_ladd, j_lmul, j_land, j_lor, j_lcmp, j_lushr, j_lshl, j_i2l, j_l2i, j_dupI, j_dupR, j_popI, j_dup2, j_ifeq, j_iceq, j_ifne, j_icne, j_iflt, j_iclt, j_ifge, j_icge, j_ifgt, j_icgt, j_ifle, j_icle, j_goto, j_tsw, j_sw0, j_sw1, j_ireturn, j_zreturn, j_lreturn, j_return, j_getfield, j_putI, j_putJ, j_putR, j_iaload, j_baload, j_iastore, j_bastore, j_aaload, j_q, j_aastore, j_acopy, j_mmin, j_mmax, j_mabs, j_objinit, j_new, j_newI, j_newQ, j_sld, j_slen, j_callV0, j_callI0, j_callS0, j_callV1, j_callI1, j_callS1, j_callV2, j_callI2, j_callS2, j_callV3, j_callS3, j_callV4, j_callS4, j_callV5, j_callS5, j_pushS, j_pushN, j_sh0, j_sh1, j_sh2, j_sh3, j_sh4, Int32.reduceAdd, Int32.reduceMul, Int32.reduceSub, Int32.reduceLT, Int32.reduceLE, eq_self, i32_10, i32_01, ne_eq, hrow_s, hrow_n, ne10, ne100, ne1000, ne7, ne4, ne14, ne9973, or_true, true_or, or_false, false_or, not_true_eq_false, not_false_eq_true, false_implies, implies_true, and_true, forall_const, true_implies, jargs_n, jargs_r, jargs_i, List.cons_append, List.nil_append, true_and, Nat.reduceEqDiff, reduceIte, ft_X6_mayLie_0, ft_X6_mayLie_1, ft_X6_mayLie_4, ft_X6_mayLie_5, ft_X6_mayLie_8, ft_X6_mayLie_11, ft_X6_mayLie_12, ft_X6_mayLie_13, ft_X6_mayLie_14, ft_X6_mayLie_16, ft_X6_mayLie_19, ft_X6_mayLie_20, ft_X6_mayLie_23, ft_X6_mayLie_24, ft_X6_mayLie_27, ft_X6_mayLie_28, ft_X6_mayLie_29, ft_X6_mayLie_32, ft_X6_mayLie_35, ft_X6_mayLie_38, ft_X6_mayLie_41, ft_X6_mayLie_42, ft_X6_mayLie_43, ft_X6_mayLie_44, ft_X6_mayLie_47, ft_X6_mayLie_48, ft_X6_mayLie_51, ft_X6_mayLie_52, ft_X6_mayLie_53, ft_X6_mayLie_55, ft_X6_mayLie_56, ft_X6_mayLie_59, ft_X6_mayLie_62, ft_X6_mayLie_65, ft_X6_mayLie_66, hc, fl_0_1, fl_0_2, fl_0_4, fl_0_7, fl_3_2, rc_6, rc_60, jrcv_st js_12, v.r 3 rfl, r.hP]
    refine s_denyH v hct h6 ?_
    simp -implicitDefEqProofs only [jr_0, jr_1, jr_2, j_iconst, j_lconst, j_iload0, j_aload0, j_istore0, j_astore0, j_iinc0, j_iload1, j_aload1, j_istore1, j_astore1, j_iinc1, j_iload2, j_aload2, j_istore2, j_astore2, j_iinc2, j_iload3, j_aload3, j_istore3, j_astore3, j_iinc3, j_iload4, j_aload4, j_istore4, j_astore4, j_iinc4, j_iload5, j_aload5, j_istore5, j_astore5, j_iinc5, j_iload6, j_aload6, j_istore6, j_astore6, j_iinc6, j_iload7, j_aload7, j_istore7, j_astore7, j_iinc7, j_iload8, j_aload8, j_istore8, j_astore8, j_iinc8, j_iadd, j_isub, j_imul, j_iand, j_ior, j_ixor, j_ishl, j_ishr, j_iushr, j_idiv, j_irem, j_ineg, j_ladd, j_lmul, j_land, j_lor, j_lcmp, j_lushr, j_lshl, j_i2l, j_l2i, j_dupI, j_dupR, j_popI, j_dup2, j_ifeq, j_iceq, j_ifne, j_icne, j_iflt, j_iclt, j_ifge, j_icge, j_ifgt, j_icgt, j_ifle, j_icle, j_goto, j_tsw, j_sw0, j_sw1, j_ireturn, j_zreturn, j_lreturn, j_return, j_getfield, j_putI, j_putJ, j_putR, j_iaload, j_baload, j_iastore, j_bastore, j_aaload, j_q, j_aastore, j_acopy, j_mmin, j_mmax, j_mabs, j_objinit, j_new, j_newI, j_newQ, j_sld, j_slen, j_callV0, j_callI0, j_callS0, j_callV1, j_callI1, j_callS1, j_callV2, j_callI2, j_callS2, j_callV3, j_callS3, j_callV4, j_callS4, j_callV5, j_callS5, j_pushS, j_pushN, j_sh0, j_sh1, j_sh2, j_sh3, j_sh4, Int32.reduceAdd, Int32.reduceMul, Int32.reduceSub, Int32.reduceLT, Int32.reduceLE, eq_self, i32_10, i32_01, ne_eq, hrow_s, hrow_n, ne10, ne100, ne1000, ne7, ne4, ne14, ne9973, or_true, true_or, or_false, false_or, not_true_eq_false, not_false_eq_true, false_implies, implies_true, and_true, forall_const, true_implies, jargs_n, jargs_r, jargs_i, List.cons_append, List.nil_append, true_and, Nat.reduceEqDiff, reduceIte, ft_X6_mayLie_0, ft_X6_mayLie_1, ft_X6_mayLie_4, ft_X6_mayLie_5, ft_X6_mayLie_8, ft_X6_mayLie_11, ft_X6_mayLie_12, ft_X6_mayLie_13, ft_X6_mayLie_14, ft_X6_mayLie_16, ft_X6_mayLie_19, ft_X6_mayLie_20, ft_X6_mayLie_23, ft_X6_mayLie_24, ft_X6_mayLie_27, ft_X6_mayLie_28, ft_X6_mayLie_29, ft_X6_mayLie_32, ft_X6_mayLie_35, ft_X6_mayLie_38, ft_X6_mayLie_41, ft_X6_mayLie_42, ft_X6_mayLie_43, ft_X6_mayLie_44, ft_X6_mayLie_47, ft_X6_mayLie_48, ft_X6_mayLie_51, ft_X6_mayLie_52, ft_X6_mayLie_53, ft_X6_mayLie_55, ft_X6_mayLie_56, ft_X6_mayLie_59, ft_X6_mayLie_62, ft_X6_mayLie_65, ft_X6_mayLie_66, hc, fl_0_1, fl_0_2, fl_0_4, rc_6, jrcv_st js_12, zb_0]
    by_cases h0 : dnyF C P (nI j) (C1 12) ct 0
    · simp only [zb_f (fun q : ¬ dnyF C P (nI j) (C1 12) ct 0 ∧ mlF C P ct l k (j + 1) (goF C 0 15 l 1 (C1 12)) => q.1 h0)] at h
      simp only [h0, not_true_eq_false, not_false_eq_true, true_implies, false_implies, implies_true, and_true, true_and, forall_const]
      exact h C1 v
    · simp only [h0, not_true_eq_false, not_false_eq_true, true_implies, false_implies, implies_true, and_true, true_and, forall_const] at h ⊢
      refine s_passT (n := 1) (by decide) v r.hP r.h4 fun C2 v2 e2 => ?_
      simp -implicitDefEqProofs only [jr_0, jr_1, jr_2, j_iconst, j_lconst, j_iload0, j_aload0, j_istore0, j_astore0, j_iinc0, j_iload1, j_aload1, j_istore1, j_astore1, j_iinc1, j_iload2, j_aload2, j_istore2, j_astore2, j_iinc2, j_iload3, j_aload3, j_istore3, j_astore3, j_iinc3, j_iload4, j_aload4, j_istore4, j_astore4, j_iinc4, j_iload5, j_aload5, j_istore5, j_astore5, j_iinc5, j_iload6, j_aload6, j_istore6, j_astore6, j_iinc6, j_iload7, j_aload7, j_istore7, j_astore7, j_iinc7, j_iload8, j_aload8, j_istore8, j_astore8, j_iinc8, j_iadd, j_isub, j_imul, j_iand, j_ior, j_ixor, j_ishl, j_ishr, j_iushr, j_idiv, j_irem, j_ineg, j_ladd, j_lmul, j_land, j_lor, j_lcmp, j_lushr, j_lshl, j_i2l, j_l2i, j_dupI, j_dupR, j_popI, j_dup2, j_ifeq, j_iceq, j_ifne, j_icne, j_iflt, j_iclt, j_ifge, j_icge, j_ifgt, j_icgt, j_ifle, j_icle, j_goto, j_tsw, j_sw0, j_sw1, j_ireturn, j_zreturn, j_lreturn, j_return, j_getfield, j_putI, j_putJ, j_putR, j_iaload, j_baload, j_iastore, j_bastore, j_aaload, j_q, j_aastore, j_acopy, j_mmin, j_mmax, j_mabs, j_objinit, j_new, j_newI, j_newQ, j_sld, j_slen, j_callV0, j_callI0, j_callS0, j_callV1, j_callI1, j_callS1, j_callV2, j_callI2, j_callS2, j_callV3, j_callS3, j_callV4, j_callS4, j_callV5, j_callS5, j_pushS, j_pushN, j_sh0, j_sh1, j_sh2, j_sh3, j_sh4, Int32.reduceAdd, Int32.reduceMul, Int32.reduceSub, Int32.reduceLT, Int32.reduceLE, eq_self, i32_10, i32_01, ne_eq, hrow_s, hrow_n, ne10, ne100, ne1000, ne7, ne4, ne14, ne9973, or_true, true_or, or_false, false_or, not_true_eq_false, not_false_eq_true, false_implies, implies_true, and_true, forall_const, true_implies, jargs_n, jargs_r, jargs_i, List.cons_append, List.nil_append, true_and, Nat.reduceEqDiff, reduceIte, ft_X6_mayLie_0, ft_X6_mayLie_1, ft_X6_mayLie_4, ft_X6_mayLie_5, ft_X6_mayLie_8, ft_X6_mayLie_11, ft_X6_mayLie_12, ft_X6_mayLie_13, ft_X6_mayLie_14, ft_X6_mayLie_16, ft_X6_mayLie_19, ft_X6_mayLie_20, ft_X6_mayLie_23, ft_X6_mayLie_24, ft_X6_mayLie_27, ft_X6_mayLie_28, ft_X6_mayLie_29, ft_X6_mayLie_32, ft_X6_mayLie_35, ft_X6_mayLie_38, ft_X6_mayLie_41, ft_X6_mayLie_42, ft_X6_mayLie_43, ft_X6_mayLie_44, ft_X6_mayLie_47, ft_X6_mayLie_48, ft_X6_mayLie_51, ft_X6_mayLie_52, ft_X6_mayLie_53, ft_X6_mayLie_55, ft_X6_mayLie_56, ft_X6_mayLie_59, ft_X6_mayLie_62, ft_X6_mayLie_65, ft_X6_mayLie_66, nI_1]
      exact ih (j + 1) (by omega) C2 v2 (by rw [e2]; exact h)
theorem ok_X6_mayLie : jMeets Y_X6_mayLie S_X6_mayLie := by
  intro nb vs mem Q h
  obtain ⟨C, C1, z, P, ct, l, rfl, rfl, r, v, hct, h6, hQ⟩ := h
  refine Ok.run OK_X6_mayLie [13] 60 [none] pn6 (Nat.le_of_ble_eq_true rfl) rfl ?_
  simp -implicitDefEqProofs only [jr_0, jr_1, jr_2, j_iconst, j_lconst, j_iload0, j_aload0, j_istore0, j_astore0, j_iinc0, j_iload1, j_aload1, j_istore1, j_astore1, j_iinc1, j_iload2, j_aload2, j_istore2, j_astore2, j_iinc2, j_iload3, j_aload3, j_istore3, j_astore3, j_iinc3, j_iload4, j_aload4, j_istore4, j_astore4, j_iinc4, j_iload5, j_aload5, j_istore5, j_astore5, j_iinc5, j_iload6, j_aload6, j_istore6, j_astore6, j_iinc6, j_iload7, j_aload7, j_istore7, j_astore7, j_iinc7, j_iload8, j_aload8, j_istore8, j_astore8, j_iinc8, j_iadd, j_isub, j_imul, j_iand, j_ior, j_ixor, j_ishl, j_ishr, j_iushr, j_idiv, j_irem, j_ineg, j_ladd, j_lmul, j_land, j_lor, j_lcmp, j_lushr, j_lshl, j_i2l, j_l2i, j_dupI, j_dupR, j_popI, j_dup2, j_ifeq, j_iceq, j_ifne, j_icne, j_iflt, j_iclt, j_ifge, j_icge, j_ifgt, j_icgt, j_ifle, j_icle, j_goto, j_tsw, j_sw0, j_sw1, j_ireturn, j_zreturn, j_lreturn, j_return, j_getfield, j_putI, j_putJ, j_putR, j_iaload, j_baload, j_iastore, j_bastore, j_aaload, j_q, j_aastore, j_acopy, j_mmin, j_mmax, j_mabs, j_objinit, j_new, j_newI, j_newQ, j_sld, j_slen, j_callV0, j_callI0, j_callS0, j_callV1, j_callI1, j_callS1, j_callV2, j_callI2, j_callS2, j_callV3, j_callS3, j_callV4, j_callS4, j_callV5, j_callS5, j_pushS, j_pushN, j_sh0, j_sh1, j_sh2, j_sh3, j_sh4, Int32.reduceAdd, Int32.reduceMul, Int32.reduceSub, Int32.reduceLT, Int32.reduceLE, eq_self, i32_10, i32_01, ne_eq, hrow_s, hrow_n, ne10, ne100, ne1000, ne7, ne4, ne14, ne9973, or_true, true_or, or_false, false_or, not_true_eq_false, not_false_eq_true, false_implies, implies_true, and_true, forall_const, true_implies, jargs_n, jargs_r, jargs_i, List.cons_append, List.nil_append, true_and, Nat.reduceEqDiff, reduceIte, ft_X6_mayLie_0, ft_X6_mayLie_1, ft_X6_mayLie_4, ft_X6_mayLie_5, ft_X6_mayLie_8, ft_X6_mayLie_11, ft_X6_mayLie_12, ft_X6_mayLie_13, ft_X6_mayLie_14, ft_X6_mayLie_16, ft_X6_mayLie_19, ft_X6_mayLie_20, ft_X6_mayLie_23, ft_X6_mayLie_24, ft_X6_mayLie_27, ft_X6_mayLie_28, ft_X6_mayLie_29, ft_X6_mayLie_32, ft_X6_mayLie_35, ft_X6_mayLie_38, ft_X6_mayLie_41, ft_X6_mayLie_42, ft_X6_mayLie_43, ft_X6_mayLie_44, ft_X6_mayLie_47, ft_X6_mayLie_48, ft_X6_mayLie_51, ft_X6_mayLie_52, ft_X6_mayLie_53, ft_X6_mayLie_55, ft_X6_mayLie_56, ft_X6_mayLie_59, ft_X6_mayLie_62, ft_X6_mayLie_65, ft_X6_mayLie_66, fl_0_3, fl_0_4, jrcv_st js_12, s_takeH r v]
  exact lp_X6_mayLie r hct h6 21 0 rfl _ (v.h12 r.c9) (by rw [hrow_s]; exact hQ)
theorem s_X6_mayLie {nb P ct : Nat} {C C1 : Nat → Nat → Int32} {z : Nat → Int64} {l : Int32} {Q : jQ} (r : RC C P) (v : Hv C C1) (hct : C 60 3 = nI ct) (h6 : ct ≤ 6) (hQ : ∀ C', Hv C C' → Q (some (.int (zb (mlF C P ct l 21 0 (C 9))))) (memS 94 C' z)) : S_X6_mayLie nb [.ref 0, .int l] (memS 94 C1 z) Q := ⟨C, C1, z, P, ct, l, rfl, rfl, r, v, hct, h6, hQ⟩
noncomputable def whF (C : Nat → Nat → Int32) (P ct : Nat) : Nat → Int32
  | 0 => 0
  | k + 1 => pick (mlF C P ct (nI k) 21 0 (C 9)) (whF C P ct k ||| 1 <<< (nI k &&& 31)) (whF C P ct k)
def S_X6_which : jSp := fun _ vs mem Q => ∃ C z P K ct, vs = [.ref 0] ∧ mem = memS 94 C z ∧ RC C P ∧ C 3 3 = nI K ∧ K ≤ 6 ∧ C 60 3 = nI ct ∧ ct ≤ 6 ∧ ∀ C', Hv C C' → Q (some (.int (whF C P ct K))) (memS 94 C' z)
def F_X6_which_0 : Nat → jT := fun pc => (bif Nat.blt pc 5 then (bif Nat.blt pc 2 then (bif Nat.blt pc 1 then (bif Nat.beq pc 0 then J_iconst 0 1 else jbad) else (bif Nat.beq pc 1 then J_istore 1 2 else jbad)) else (bif Nat.blt pc 3 then (bif Nat.beq pc 2 then J_iconst 0 3 else jbad) else (bif Nat.blt pc 4 then (bif Nat.beq pc 3 then J_istore 2 4 else jbad) else (bif Nat.beq pc 4 then J_iload 2 5 else jbad)))) else (bif Nat.blt pc 12 then (bif Nat.blt pc 6 then (bif Nat.beq pc 5 then J_aload 0 6 else jbad) else (bif Nat.blt pc 9 then (bif Nat.beq pc 6 then J_getfield 6 1 9 else jbad) else (bif Nat.beq pc 9 then J_getfield 3 3 12 else jbad))) else (bif Nat.blt pc 15 then (bif Nat.beq pc 12 then J_icge 35 15 else jbad) else (bif Nat.blt pc 16 then (bif Nat.beq pc 15 then J_aload 0 16 else jbad) else (bif Nat.beq pc 16 then J_iload 2 17 else jbad)))))
theorem ftl_X6_which_0 : F_X6_which_0 0 = J_iconst 0 1 := rfl
theorem ftl_X6_which_1 : F_X6_which_0 1 = J_istore 1 2 := rfl
theorem ftl_X6_which_2 : F_X6_which_0 2 = J_iconst 0 3 := rfl
theorem ftl_X6_which_3 : F_X6_which_0 3 = J_istore 2 4 := rfl
theorem ftl_X6_which_4 : F_X6_which_0 4 = J_iload 2 5 := rfl
theorem ftl_X6_which_5 : F_X6_which_0 5 = J_aload 0 6 := rfl
theorem ftl_X6_which_6 : F_X6_which_0 6 = J_getfield 6 1 9 := rfl
theorem ftl_X6_which_9 : F_X6_which_0 9 = J_getfield 3 3 12 := rfl
theorem ftl_X6_which_12 : F_X6_which_0 12 = J_icge 35 15 := rfl
theorem ftl_X6_which_15 : F_X6_which_0 15 = J_aload 0 16 := rfl
theorem ftl_X6_which_16 : F_X6_which_0 16 = J_iload 2 17 := rfl
theorem F_X6_which_0_ok : jOK Y_X6_which none (F_X6_which_0) := (jOK_node (jOK_node (jOK_node (jOK_leaf (sn_iconst dX6_which_0 rfl rfl)) (jOK_leaf (sn_istore_n dX6_which_1 rfl rfl (by decide)))) (jOK_node (jOK_leaf (sn_iconst dX6_which_2 rfl rfl)) (jOK_node (jOK_leaf (sn_istore_n dX6_which_3 rfl rfl (by decide))) (jOK_leaf (sn_iload_n dX6_which_4 rfl rfl))))) (jOK_node (jOK_node (jOK_leaf (sn_aload_n dX6_which_5 rfl rfl)) (jOK_node (jOK_leaf (sn_getfield dX6_which_6 rfl rfl (by decide) tw_167 jin6)) (jOK_leaf (sn_getfield dX6_which_9 rfl rfl (by decide) tw_48 jin3)))) (jOK_node (jOK_leaf (sn_icge dX6_which_12 rfl rfl)) (jOK_node (jOK_leaf (sn_aload_n dX6_which_15 rfl rfl)) (jOK_leaf (sn_iload_n dX6_which_16 rfl rfl))))))
def F_X6_which_17 : Nat → jT := fun pc => (bif Nat.blt pc 27 then (bif Nat.blt pc 24 then (bif Nat.blt pc 20 then (bif Nat.beq pc 17 then J_callV 6 S_X6_mayLie 1 20 else jbad) else (bif Nat.blt pc 23 then (bif Nat.beq pc 20 then J_ifeq 29 23 else jbad) else (bif Nat.beq pc 23 then J_iload 1 24 else jbad))) else (bif Nat.blt pc 25 then (bif Nat.beq pc 24 then J_iconst 1 25 else jbad) else (bif Nat.blt pc 26 then (bif Nat.beq pc 25 then J_iload 2 26 else jbad) else (bif Nat.beq pc 26 then J_ishl 27 else jbad)))) else (bif Nat.blt pc 32 then (bif Nat.blt pc 28 then (bif Nat.beq pc 27 then J_ior 28 else jbad) else (bif Nat.blt pc 29 then (bif Nat.beq pc 28 then J_istore 1 29 else jbad) else (bif Nat.beq pc 29 then J_iinc 2 1 32 else jbad))) else (bif Nat.blt pc 35 then (bif Nat.beq pc 32 then J_goto 4 else jbad) else (bif Nat.blt pc 36 then (bif Nat.beq pc 35 then J_iload 1 36 else jbad) else (bif Nat.beq pc 36 then J_ireturn 0 0 else jbad)))))
theorem ftl_X6_which_17 : F_X6_which_17 17 = J_callV 6 S_X6_mayLie 1 20 := rfl
theorem ftl_X6_which_20 : F_X6_which_17 20 = J_ifeq 29 23 := rfl
theorem ftl_X6_which_23 : F_X6_which_17 23 = J_iload 1 24 := rfl
theorem ftl_X6_which_24 : F_X6_which_17 24 = J_iconst 1 25 := rfl
theorem ftl_X6_which_25 : F_X6_which_17 25 = J_iload 2 26 := rfl
theorem ftl_X6_which_26 : F_X6_which_17 26 = J_ishl 27 := rfl
theorem ftl_X6_which_27 : F_X6_which_17 27 = J_ior 28 := rfl
theorem ftl_X6_which_28 : F_X6_which_17 28 = J_istore 1 29 := rfl
theorem ftl_X6_which_29 : F_X6_which_17 29 = J_iinc 2 1 32 := rfl
theorem ftl_X6_which_32 : F_X6_which_17 32 = J_goto 4 := rfl
theorem ftl_X6_which_35 : F_X6_which_17 35 = J_iload 1 36 := rfl
theorem ftl_X6_which_36 : F_X6_which_17 36 = J_ireturn 0 0 := rfl
theorem F_X6_which_17_ok : jOK Y_X6_which none (F_X6_which_17) := (jOK_node (jOK_node (jOK_node (jOK_leaf (sn_callV (Y' := Y_X6_mayLie) ok_X6_mayLie dX6_which_17 rfl rfl rfl tw_547 tw_549 tp_22 tw_1 jc_X6_mayLie rfl ⟨by decide, by decide, rfl⟩ ⟨by decide, by decide⟩)) (jOK_node (jOK_leaf (sn_ifeq dX6_which_20 rfl rfl)) (jOK_leaf (sn_iload_n dX6_which_23 rfl rfl)))) (jOK_node (jOK_leaf (sn_iconst dX6_which_24 rfl rfl)) (jOK_node (jOK_leaf (sn_iload_n dX6_which_25 rfl rfl)) (jOK_leaf (sn_ishl dX6_which_26 rfl))))) (jOK_node (jOK_node (jOK_leaf (sn_ior dX6_which_27 rfl)) (jOK_node (jOK_leaf (sn_istore_n dX6_which_28 rfl rfl (by decide))) (jOK_leaf (sn_iinc dX6_which_29 rfl rfl (by decide))))) (jOK_node (jOK_leaf (sn_goto dX6_which_32 rfl)) (jOK_node (jOK_leaf (sn_iload_n dX6_which_35 rfl rfl)) (jOK_leaf (sn_ireturn dX6_which_36 rfl rfl))))))
def F_X6_which_0_36 : Nat → jT := fun pc => bif Nat.blt pc 17 then F_X6_which_0 pc else F_X6_which_17 pc
theorem F_X6_which_0_36_l {pc : Nat} (h : Nat.blt pc 17 = true) : F_X6_which_0_36 pc = F_X6_which_0 pc := by unfold F_X6_which_0_36; rw [h]; rfl
theorem F_X6_which_0_36_r {pc : Nat} (h : Nat.blt pc 17 = false) : F_X6_which_0_36 pc = F_X6_which_17 pc := by unfold F_X6_which_0_36; rw [h]; rfl
theorem F_X6_which_0_36_ok : jOK Y_X6_which none (F_X6_which_0_36) := jOK_node (F_X6_which_0_ok) (F_X6_which_17_ok)
def F_X6_which : Nat → jT := F_X6_which_0_36
theorem OK_X6_which : jOK Y_X6_which none (F_X6_which) := F_X6_which_0_36_ok
theorem ft_X6_which_0 : F_X6_which 0 = J_iconst 0 1 := (F_X6_which_0_36_l rfl).trans (ftl_X6_which_0)
theorem ft_X6_which_1 : F_X6_which 1 = J_istore 1 2 := (F_X6_which_0_36_l rfl).trans (ftl_X6_which_1)
theorem ft_X6_which_2 : F_X6_which 2 = J_iconst 0 3 := (F_X6_which_0_36_l rfl).trans (ftl_X6_which_2)
theorem ft_X6_which_3 : F_X6_which 3 = J_istore 2 4 := (F_X6_which_0_36_l rfl).trans (ftl_X6_which_3)
theorem ft_X6_which_4 : F_X6_which 4 = J_iload 2 5 := (F_X6_which_0_36_l rfl).trans (ftl_X6_which_4)
theorem ft_X6_which_5 : F_X6_which 5 = J_aload 0 6 := (F_X6_which_0_36_l rfl).trans (ftl_X6_which_5)
theorem ft_X6_which_6 : F_X6_which 6 = J_getfield 6 1 9 := (F_X6_which_0_36_l rfl).trans (ftl_X6_which_6)
theorem ft_X6_which_9 : F_X6_which 9 = J_getfield 3 3 12 := (F_X6_which_0_36_l rfl).trans (ftl_X6_which_9)
theorem ft_X6_which_12 : F_X6_which 12 = J_icge 35 15 := (F_X6_which_0_36_l rfl).trans (ftl_X6_which_12)
theorem ft_X6_which_15 : F_X6_which 15 = J_aload 0 16 := (F_X6_which_0_36_l rfl).trans (ftl_X6_which_15)
theorem ft_X6_which_16 : F_X6_which 16 = J_iload 2 17 := (F_X6_which_0_36_l rfl).trans (ftl_X6_which_16)
theorem ft_X6_which_17 : F_X6_which 17 = J_callV 6 S_X6_mayLie 1 20 := (F_X6_which_0_36_r rfl).trans (ftl_X6_which_17)
theorem ft_X6_which_20 : F_X6_which 20 = J_ifeq 29 23 := (F_X6_which_0_36_r rfl).trans (ftl_X6_which_20)
theorem ft_X6_which_23 : F_X6_which 23 = J_iload 1 24 := (F_X6_which_0_36_r rfl).trans (ftl_X6_which_23)
theorem ft_X6_which_24 : F_X6_which 24 = J_iconst 1 25 := (F_X6_which_0_36_r rfl).trans (ftl_X6_which_24)
theorem ft_X6_which_25 : F_X6_which 25 = J_iload 2 26 := (F_X6_which_0_36_r rfl).trans (ftl_X6_which_25)
theorem ft_X6_which_26 : F_X6_which 26 = J_ishl 27 := (F_X6_which_0_36_r rfl).trans (ftl_X6_which_26)
theorem ft_X6_which_27 : F_X6_which 27 = J_ior 28 := (F_X6_which_0_36_r rfl).trans (ftl_X6_which_27)
theorem ft_X6_which_28 : F_X6_which 28 = J_istore 1 29 := (F_X6_which_0_36_r rfl).trans (ftl_X6_which_28)
theorem ft_X6_which_29 : F_X6_which 29 = J_iinc 2 1 32 := (F_X6_which_0_36_r rfl).trans (ftl_X6_which_29)
theorem ft_X6_which_32 : F_X6_which 32 = J_goto 4 := (F_X6_which_0_36_r rfl).trans (ftl_X6_which_32)
theorem ft_X6_which_35 : F_X6_which 35 = J_iload 1 36 := (F_X6_which_0_36_r rfl).trans (ftl_X6_which_35)
theorem ft_X6_which_36 : F_X6_which 36 = J_ireturn 0 0 := (F_X6_which_0_36_r rfl).trans (ftl_X6_which_36)
theorem lp_X6_which {Q : jQ} {C : Nat → Nat → Int32} {z : Nat → Int64} {nb P K ct : Nat} (r : RC C P) (hK : C 3 3 = nI K) (hK6 : K ≤ 6) (hct : C 60 3 = nI ct) (h6 : ct ≤ 6) :
    ∀ k j, j + k = K → ∀ C1, Hv C C1 → (∀ C', Hv C C' → Q (some (.int (whF C P ct K))) (memS 94 C' z)) → Rn Y_X6_which none Q 4 [some (.ref 0), some (.int (whF C P ct j)), some (.int (nI j))] [] (memS 94 C1 z) (nb, 0, 0) := by
  intro k
  induction k with
  | zero =>
    intro j hj C1 v h
    have hc : (nI K ≤ nI j) = True := eq_true (nI_le (by omega) (by omega))
    refine jrun_first OK_X6_which (C := [4]) 60 ?_
    simp -implicitDefEqProofs only [jr_0, jr_1, jr_2, j_iconst, j_lconst, j_iload0, j_aload0, j_istore0, j_astore0, j_iinc0, j_iload1, j_aload1, j_istore1, j_astore1, j_iinc1, j_iload2, j_aload2, j_istore2, j_astore2, j_iinc2, j_iload3, j_aload3, j_istore3, j_astore3, j_iinc3, j_iload4, j_aload4, j_istore4, j_astore4, j_iinc4, j_iload5, j_aload5, j_istore5, j_astore5, j_iinc5, j_iload6, j_aload6, j_istore6, j_astore6, j_iinc6, j_iload7, j_aload7, j_istore7, j_astore7, j_iinc7, j_iload8, j_aload8, j_istore8, j_astore8, j_iinc8, j_iadd, j_isub, j_imul, j_iand, j_ior, j_ixor, j_ishl, j_ishr, j_iushr, j_idiv, j_irem, j_ineg, j_ladd, j_lmul, j_land, j_lor, j_lcmp, j_lushr, j_lshl, j_i2l, j_l2i, j_dupI, j_dupR, j_popI, j_dup2, j_ifeq, j_iceq, j_ifne, j_icne, j_iflt, j_iclt, j_ifge, j_icge, j_ifgt, j_icgt, j_ifle, j_icle, j_goto, j_tsw, j_sw0, j_sw1, j_ireturn, j_zreturn, j_lreturn, j_return, j_getfield, j_putI, j_putJ, j_putR, j_iaload, j_baload, j_iastore, j_bastore, j_aaload, j_q, j_aastore, j_acopy, j_mmin, j_mmax, j_mabs, j_objinit, j_new, j_newI, j_newQ, j_sld, j_slen, j_callV0, j_callI0, j_callS0, j_callV1, j_callI1, j_callS1, j_callV2, j_callI2, j_callS2, j_callV3, j_callS3, j_callV4, j_callS4, j_callV5, j_callS5, j_pushS, j_pushN, j_sh0, j_sh1, j_sh2, j_sh3, j_sh4, Int32.reduceAdd, Int32.reduceMul, Int32.reduceSub, Int32.reduceLT, Int32.reduceLE, eq_self, i32_10, i32_01, ne_eq, hrow_s, hrow_n, ne10, ne100, ne1000, ne7, ne4, ne14, ne9973, or_true, true_or, or_false, false_or, not_true_eq_false, not_false_eq_true, false_implies, implies_true, and_true, forall_const, true_implies, jargs_n, jargs_r, jargs_i, List.cons_append, List.nil_append, true_and, Nat.reduceEqDiff, reduceIte, ft_X6_which_0, ft_X6_which_1, ft_X6_which_2, ft_X6_which_3, ft_X6_which_4, ft_X6_which_5, ft_X6_which_6, ft_X6_which_9, ft_X6_which_12, ft_X6_which_15, ft_X6_which_16, ft_X6_which_17, ft_X6_which_20, ft_X6_which_23, ft_X6_which_24, ft_X6_which_25, ft_X6_which_26, ft_X6_which_27, ft_X6_which_28, ft_X6_which_29, ft_X6_which_32, ft_X6_which_35, ft_X6_which_36, fl_0_1, fl_3_3, v.r 3 rfl, hK, hc]
    rw [show j = K by omega]
    exact h C1 v
  | succ k ih =>
    intro j hj C1 v h
    have hc : (nI K ≤ nI j) = False := eq_false (nI_ge (by omega) (by omega))
    have hk := fun C1 v => ih (j + 1) (by omega) C1 v h
    unfold whF at hk
    refine jrun_first OK_X6_which (C := [4]) 60 ?_
    simp -implicitDefEqProofs only [jr_0, jr_1, jr_2, j_iconst, j_lconst, j_iload0, j_aload0, j_istore0, j_astore0, j_iinc0, j_iload1, j_aload1, j_istore1, j_astore1, j_iinc1, j_iload2, j_aload2, j_istore2, j_astore2, j_iinc2, j_iload3, j_aload3, j_istore3, j_astore3, j_iinc3, j_iload4, j_aload4, j_istore4, j_astore4, j_iinc4, j_iload5, j_aload5, j_istore5, j_astore5, j_iinc5, j_iload6, j_aload6, j_istore6, j_astore6, j_iinc6, j_iload7, j_aload7, j_istore7, j_astore7, j_iinc7, j_iload8, j_aload8, j_istore8, j_astore8, j_iinc8, j_iadd, j_isub, j_imul, j_iand, j_ior, j_ixor, j_ishl, j_ishr, j_iushr, j_idiv, j_irem, j_ineg, j_ladd, j_lmul, j_land, j_lor, j_lcmp, j_lushr, j_lshl, j_i2l, j_l2i, j_dupI, j_dupR, j_popI, j_dup2, j_ifeq, j_iceq, j_ifne, j_icne, j_iflt, j_iclt, j_ifge, j_icge, j_ifgt, j_icgt, j_ifle, j_icle, j_goto, j_tsw, j_sw0, j_sw1, j_ireturn, j_zreturn, j_lreturn, j_return, j_getfield, j_putI, j_putJ, j_putR, j_iaload, j_baload, j_iastore, j_bastore, j_aaload, j_q, j_aastore, j_acopy, j_mmin, j_mmax, j_mabs, j_objinit, j_new, j_newI, j_newQ, j_sld, j_slen, j_callV0, j_callI0, j_callS0, j_callV1, j_callI1, j_callS1, j_callV2, j_callI2, j_callS2, j_callV3, j_callS3, j_callV4, j_callS4, j_callV5, j_callS5, j_pushS, j_pushN, j_sh0, j_sh1, j_sh2, j_sh3, j_sh4, Int32.reduceAdd, Int32.reduceMul, Int32.reduceSub, Int32.reduceLT, Int32.reduceLE, eq_self, i32_10, i32_01, ne_eq, hrow_s, hrow_n, ne10, ne100, ne1000, ne7, ne4, ne14, ne9973, or_true, true_or, or_false, false_or, not_true_eq_false, not_false_eq_true, false_implies, implies_true, and_true, forall_const, true_implies, jargs_n, jargs_r, jargs_i, List.cons_append, List.nil_append, true_and, Nat.reduceEqDiff, reduceIte, ft_X6_which_0, ft_X6_which_1, ft_X6_which_2, ft_X6_which_3, ft_X6_which_4, ft_X6_which_5, ft_X6_which_6, ft_X6_which_9, ft_X6_which_12, ft_X6_which_15, ft_X6_which_16, ft_X6_which_17, ft_X6_which_20, ft_X6_which_23, ft_X6_which_24, ft_X6_which_25, ft_X6_which_26, ft_X6_which_27, ft_X6_which_28, ft_X6_which_29, ft_X6_which_32, ft_X6_which_35, ft_X6_which_36, fl_0_1, fl_3_3, rc_0, v.r 3 rfl, hK, hc]
    refine s_X6_mayLie r v hct h6 fun C2 v2 => ?_
    simp -implicitDefEqProofs only [jr_0, jr_1, jr_2, j_iconst, j_lconst, j_iload0, j_aload0, j_istore0, j_astore0, j_iinc0, j_iload1, j_aload1, j_istore1, j_astore1, j_iinc1, j_iload2, j_aload2, j_istore2, j_astore2, j_iinc2, j_iload3, j_aload3, j_istore3, j_astore3, j_iinc3, j_iload4, j_aload4, j_istore4, j_astore4, j_iinc4, j_iload5, j_aload5, j_istore5, j_astore5, j_iinc5, j_iload6, j_aload6, j_istore6, j_astore6, j_iinc6, j_iload7, j_aload7, j_istore7, j_astore7, j_iinc7, j_iload8, j_aload8, j_istore8, j_astore8, j_iinc8, j_iadd, j_isub, j_imul, j_iand, j_ior, j_ixor, j_ishl, j_ishr, j_iushr, j_idiv, j_irem, j_ineg, j_ladd, j_lmul, j_land, j_lor, j_lcmp, j_lushr, j_lshl, j_i2l, j_l2i, j_dupI, j_dupR, j_popI, j_dup2, j_ifeq, j_iceq, j_ifne, j_icne, j_iflt, j_iclt, j_ifge, j_icge, j_ifgt, j_icgt, j_ifle, j_icle, j_goto, j_tsw, j_sw0, j_sw1, j_ireturn, j_zreturn, j_lreturn, j_return, j_getfield, j_putI, j_putJ, j_putR, j_iaload, j_baload, j_iastore, j_bastore, j_aaload, j_q, j_aastore, j_acopy, j_mmin, j_mmax, j_mabs, j_objinit, j_new, j_newI, j_newQ, j_sld, j_slen, j_callV0, j_callI0, j_callS0, j_callV1, j_callI1, j_callS1, j_callV2, j_callI2, j_callS2, j_callV3, j_callS3, j_callV4, j_callS4, j_callV5, j_callS5, j_pushS, j_pushN, j_sh0, j_sh1, j_sh2, j_sh3, j_sh4, Int32.reduceAdd, Int32.reduceMul, Int32.reduceSub, Int32.reduceLT, Int32.reduceLE, eq_self, i32_10, i32_01, ne_eq, hrow_s, hrow_n, ne10, ne100, ne1000, ne7, ne4, ne14, ne9973, or_true, true_or, or_false, false_or, not_true_eq_false, not_false_eq_true, false_implies, implies_true, and_true, forall_const, true_implies, jargs_n, jargs_r, jargs_i, List.cons_append, List.nil_append, true_and, Nat.reduceEqDiff, reduceIte, ft_X6_which_0, ft_X6_which_1, ft_X6_which_2, ft_X6_which_3, ft_X6_which_4, ft_X6_which_5, ft_X6_which_6, ft_X6_which_9, ft_X6_which_12, ft_X6_which_15, ft_X6_which_16, ft_X6_which_17, ft_X6_which_20, ft_X6_which_23, ft_X6_which_24, ft_X6_which_25, ft_X6_which_26, ft_X6_which_27, ft_X6_which_28, ft_X6_which_29, ft_X6_which_32, ft_X6_which_35, ft_X6_which_36, zb_0, nI_1]
    by_cases h0 : mlF C P ct (nI j) 21 0 (C 9)
    · simp only [pick_t h0] at hk
      simp only [h0, not_true_eq_false, not_false_eq_true, true_implies, false_implies, implies_true, and_true, true_and, forall_const]
      exact hk C2 v2
    · simp only [pick_f h0] at hk
      simp only [h0, not_true_eq_false, not_false_eq_true, true_implies, false_implies, implies_true, and_true, true_and, forall_const]
      exact hk C2 v2
theorem ok_X6_which : jMeets Y_X6_which S_X6_which := by
  intro nb vs mem Q h
  obtain ⟨C, z, P, K, ct, rfl, rfl, r, hK, hK6, hct, h6, hQ⟩ := h
  refine Ok.run OK_X6_which [4] 60 [none, none] pn6 (Nat.le_of_ble_eq_true rfl) rfl ?_
  simp -implicitDefEqProofs only [jr_0, jr_1, jr_2, j_iconst, j_lconst, j_iload0, j_aload0, j_istore0, j_astore0, j_iinc0, j_iload1, j_aload1, j_istore1, j_astore1, j_iinc1, j_iload2, j_aload2, j_istore2, j_astore2, j_iinc2, j_iload3, j_aload3, j_istore3, j_astore3, j_iinc3, j_iload4, j_aload4, j_istore4, j_astore4, j_iinc4, j_iload5, j_aload5, j_istore5, j_astore5, j_iinc5, j_iload6, j_aload6, j_istore6, j_astore6, j_iinc6, j_iload7, j_aload7, j_istore7, j_astore7, j_iinc7, j_iload8, j_aload8, j_istore8, j_astore8, j_iinc8, j_iadd, j_isub, j_imul, j_iand, j_ior, j_ixor, j_ishl, j_ishr, j_iushr, j_idiv, j_irem, j_ineg, j_ladd, j_lmul, j_land, j_lor, j_lcmp, j_lushr, j_lshl, j_i2l, j_l2i, j_dupI, j_dupR, j_popI, j_dup2, j_ifeq, j_iceq, j_ifne, j_icne, j_iflt, j_iclt, j_ifge, j_icge, j_ifgt, j_icgt, j_ifle, j_icle, j_goto, j_tsw, j_sw0, j_sw1, j_ireturn, j_zreturn, j_lreturn, j_return, j_getfield, j_putI, j_putJ, j_putR, j_iaload, j_baload, j_iastore, j_bastore, j_aaload, j_q, j_aastore, j_acopy, j_mmin, j_mmax, j_mabs, j_objinit, j_new, j_newI, j_newQ, j_sld, j_slen, j_callV0, j_callI0, j_callS0, j_callV1, j_callI1, j_callS1, j_callV2, j_callI2, j_callS2, j_callV3, j_callS3, j_callV4, j_callS4, j_callV5, j_callS5, j_pushS, j_pushN, j_sh0, j_sh1, j_sh2, j_sh3, j_sh4, Int32.reduceAdd, Int32.reduceMul, Int32.reduceSub, Int32.reduceLT, Int32.reduceLE, eq_self, i32_10, i32_01, ne_eq, hrow_s, hrow_n, ne10, ne100, ne1000, ne7, ne4, ne14, ne9973, or_true, true_or, or_false, false_or, not_true_eq_false, not_false_eq_true, false_implies, implies_true, and_true, forall_const, true_implies, jargs_n, jargs_r, jargs_i, List.cons_append, List.nil_append, true_and, Nat.reduceEqDiff, reduceIte, ft_X6_which_0, ft_X6_which_1, ft_X6_which_2, ft_X6_which_3, ft_X6_which_4, ft_X6_which_5, ft_X6_which_6, ft_X6_which_9, ft_X6_which_12, ft_X6_which_15, ft_X6_which_16, ft_X6_which_17, ft_X6_which_20, ft_X6_which_23, ft_X6_which_24, ft_X6_which_25, ft_X6_which_26, ft_X6_which_27, ft_X6_which_28, ft_X6_which_29, ft_X6_which_32, ft_X6_which_35, ft_X6_which_36]
  exact lp_X6_which r hK hK6 hct h6 K 0 (by omega) C r.rf hQ
theorem s_X6_which {nb P K ct : Nat} {C : Nat → Nat → Int32} {z : Nat → Int64} {Q : jQ} (r : RC C P) (hK : C 3 3 = nI K) (hK6 : K ≤ 6) (hct : C 60 3 = nI ct) (h6 : ct ≤ 6) (hQ : ∀ C', Hv C C' → Q (some (.int (whF C P ct K))) (memS 94 C' z)) : S_X6_which nb [.ref 0] (memS 94 C z) Q := ⟨C, z, P, K, ct, rfl, rfl, r, hK, hK6, hct, h6, hQ⟩
