/-! digits of rows, signs -/
def dig (r m i : Nat) : Nat := r / 10 ^ (m - 1 - i) % 10
def sprd (C : Nat → Nat → Int32) (r n j : Nat) : Nat → Int32 := fun i => if j ≤ i ∧ i < n then nI (dig r n i) else C 64 i
theorem sprd_s {C : Nat → Nat → Int32} {r n j : Nat} (h : j < n) : upd (sprd C r n (j + 1)) j (nI (dig r n j)) = sprd C r n j := by
  funext i
  by_cases hi : i = j
  · subst hi
    rw [upd_eq]
    unfold sprd
    rw [if_pos ⟨Nat.le_refl _, h⟩]
  · rw [upd_ne hi]
    unfold sprd
    by_cases h1 : j + 1 ≤ i ∧ i < n
    · rw [if_pos h1, if_pos ⟨by omega, h1.2⟩]
    · rw [if_neg h1, if_neg (by omega)]
theorem sprd_n {C : Nat → Nat → Int32} {r n : Nat} : sprd C r n n = C 64 := by
  funext i
  unfold sprd
  rw [if_neg (by omega)]
theorem sprd_at {C : Nat → Nat → Int32} {r n i : Nat} (h : i < n) : sprd C r n 0 i = nI (dig r n i) := by
  unfold sprd
  rw [if_pos ⟨Nat.zero_le _, h⟩]
theorem dig_lt {r m i : Nat} : dig r m i < 10 := Nat.mod_lt _ (by decide)
theorem i32_sm {x : Int32} : x + -1 = x - 1 := (Int32.sub_eq_add_neg x 1).symm
def S_X6_spread : jSp := fun _ vs mem Q => ∃ C z r n, vs = [.ref 0, .int (nI r), .int (nI n)] ∧ mem = memS 94 C z ∧ r < 2 ^ 31 ∧ n ≤ 9 ∧ Q none (memS 94 (hrow C 64 (sprd C r n 0)) z)
def F_X6_spread_0 : Nat → jT := fun pc => (bif Nat.blt pc 9 then (bif Nat.blt pc 3 then (bif Nat.blt pc 1 then (bif Nat.beq pc 0 then J_iload 1 1 else jbad) else (bif Nat.blt pc 2 then (bif Nat.beq pc 1 then J_istore 3 2 else jbad) else (bif Nat.beq pc 2 then J_iload 2 3 else jbad))) else (bif Nat.blt pc 5 then (bif Nat.beq pc 3 then J_iconst 9 5 else jbad) else (bif Nat.blt pc 8 then (bif Nat.beq pc 5 then J_mmin 8 else jbad) else (bif Nat.beq pc 8 then J_iconst 1 9 else jbad)))) else (bif Nat.blt pc 14 then (bif Nat.blt pc 10 then (bif Nat.beq pc 9 then J_isub 10 else jbad) else (bif Nat.blt pc 12 then (bif Nat.beq pc 10 then J_istore 4 12 else jbad) else (bif Nat.beq pc 12 then J_iload 4 14 else jbad))) else (bif Nat.blt pc 17 then (bif Nat.beq pc 14 then J_iflt 39 17 else jbad) else (bif Nat.blt pc 18 then (bif Nat.beq pc 17 then J_aload 0 18 else jbad) else (bif Nat.beq pc 18 then J_getfield 6 8 21 else jbad)))))
theorem ftl_X6_spread_0 : F_X6_spread_0 0 = J_iload 1 1 := rfl
theorem ftl_X6_spread_1 : F_X6_spread_0 1 = J_istore 3 2 := rfl
theorem ftl_X6_spread_2 : F_X6_spread_0 2 = J_iload 2 3 := rfl
theorem ftl_X6_spread_3 : F_X6_spread_0 3 = J_iconst 9 5 := rfl
theorem ftl_X6_spread_5 : F_X6_spread_0 5 = J_mmin 8 := rfl
theorem ftl_X6_spread_8 : F_X6_spread_0 8 = J_iconst 1 9 := rfl
theorem ftl_X6_spread_9 : F_X6_spread_0 9 = J_isub 10 := rfl
theorem ftl_X6_spread_10 : F_X6_spread_0 10 = J_istore 4 12 := rfl
theorem ftl_X6_spread_12 : F_X6_spread_0 12 = J_iload 4 14 := rfl
theorem ftl_X6_spread_14 : F_X6_spread_0 14 = J_iflt 39 17 := rfl
theorem ftl_X6_spread_17 : F_X6_spread_0 17 = J_aload 0 18 := rfl
theorem ftl_X6_spread_18 : F_X6_spread_0 18 = J_getfield 6 8 21 := rfl
theorem F_X6_spread_0_ok : jOK Y_X6_spread none (F_X6_spread_0) := (jOK_node (jOK_node (jOK_node (jOK_leaf (sn_iload_n dX6_spread_0 rfl rfl)) (jOK_node (jOK_leaf (sn_istore_n dX6_spread_1 rfl rfl (by decide))) (jOK_leaf (sn_iload_n dX6_spread_2 rfl rfl)))) (jOK_node (jOK_leaf (sn_bipush dX6_spread_3 rfl rfl)) (jOK_node (jOK_leaf (sn_mmin dX6_spread_5 rfl tw_516 tw_377 tw_10 tw_378 ⟨by decide, by decide⟩)) (jOK_leaf (sn_iconst dX6_spread_8 rfl rfl))))) (jOK_node (jOK_node (jOK_leaf (sn_isub dX6_spread_9 rfl)) (jOK_node (jOK_leaf (sn_istore dX6_spread_10 rfl (by decide))) (jOK_leaf (sn_iload dX6_spread_12 rfl)))) (jOK_node (jOK_leaf (sn_iflt dX6_spread_14 rfl rfl)) (jOK_node (jOK_leaf (sn_aload_n dX6_spread_17 rfl rfl)) (jOK_leaf (sn_getfield dX6_spread_18 rfl rfl (by decide) tw_174 jin6))))))
def F_X6_spread_21 : Nat → jT := fun pc => (bif Nat.blt pc 29 then (bif Nat.blt pc 26 then (bif Nat.blt pc 23 then (bif Nat.beq pc 21 then J_iload 4 23 else jbad) else (bif Nat.blt pc 24 then (bif Nat.beq pc 23 then J_iload 3 24 else jbad) else (bif Nat.beq pc 24 then J_iconst 10 26 else jbad))) else (bif Nat.blt pc 27 then (bif Nat.beq pc 26 then J_irem 27 else jbad) else (bif Nat.blt pc 28 then (bif Nat.beq pc 27 then J_iastore 28 else jbad) else (bif Nat.beq pc 28 then J_iload 3 29 else jbad)))) else (bif Nat.blt pc 33 then (bif Nat.blt pc 31 then (bif Nat.beq pc 29 then J_iconst 10 31 else jbad) else (bif Nat.blt pc 32 then (bif Nat.beq pc 31 then J_idiv 32 else jbad) else (bif Nat.beq pc 32 then J_istore 3 33 else jbad))) else (bif Nat.blt pc 36 then (bif Nat.beq pc 33 then J_iinc 4 (-1) 36 else jbad) else (bif Nat.blt pc 39 then (bif Nat.beq pc 36 then J_goto 12 else jbad) else (bif Nat.beq pc 39 then J_return 0 0 else jbad)))))
theorem ftl_X6_spread_21 : F_X6_spread_21 21 = J_iload 4 23 := rfl
theorem ftl_X6_spread_23 : F_X6_spread_21 23 = J_iload 3 24 := rfl
theorem ftl_X6_spread_24 : F_X6_spread_21 24 = J_iconst 10 26 := rfl
theorem ftl_X6_spread_26 : F_X6_spread_21 26 = J_irem 27 := rfl
theorem ftl_X6_spread_27 : F_X6_spread_21 27 = J_iastore 28 := rfl
theorem ftl_X6_spread_28 : F_X6_spread_21 28 = J_iload 3 29 := rfl
theorem ftl_X6_spread_29 : F_X6_spread_21 29 = J_iconst 10 31 := rfl
theorem ftl_X6_spread_31 : F_X6_spread_21 31 = J_idiv 32 := rfl
theorem ftl_X6_spread_32 : F_X6_spread_21 32 = J_istore 3 33 := rfl
theorem ftl_X6_spread_33 : F_X6_spread_21 33 = J_iinc 4 (-1) 36 := rfl
theorem ftl_X6_spread_36 : F_X6_spread_21 36 = J_goto 12 := rfl
theorem ftl_X6_spread_39 : F_X6_spread_21 39 = J_return 0 0 := rfl
theorem F_X6_spread_21_ok : jOK Y_X6_spread none (F_X6_spread_21) := (jOK_node (jOK_node (jOK_node (jOK_leaf (sn_iload dX6_spread_21 rfl)) (jOK_node (jOK_leaf (sn_iload_n dX6_spread_23 rfl rfl)) (jOK_leaf (sn_bipush dX6_spread_24 rfl rfl)))) (jOK_node (jOK_leaf (sn_irem dX6_spread_26 rfl)) (jOK_node (jOK_leaf (sn_iastore dX6_spread_27 rfl)) (jOK_leaf (sn_iload_n dX6_spread_28 rfl rfl))))) (jOK_node (jOK_node (jOK_leaf (sn_bipush dX6_spread_29 rfl rfl)) (jOK_node (jOK_leaf (sn_idiv dX6_spread_31 rfl)) (jOK_leaf (sn_istore_n dX6_spread_32 rfl rfl (by decide))))) (jOK_node (jOK_leaf (sn_iinc dX6_spread_33 rfl rfl (by decide))) (jOK_node (jOK_leaf (sn_goto dX6_spread_36 rfl)) (jOK_leaf (sn_return dX6_spread_39 rfl rfl))))))
def F_X6_spread_0_39 : Nat → jT := fun pc => bif Nat.blt pc 21 then F_X6_spread_0 pc else F_X6_spread_21 pc
theorem F_X6_spread_0_39_ok : jOK Y_X6_spread none (F_X6_spread_0_39) := jOK_node (F_X6_spread_0_ok) (F_X6_spread_21_ok)
def F_X6_spread : Nat → jT := F_X6_spread_0_39
theorem OK_X6_spread : jOK Y_X6_spread none (F_X6_spread) := F_X6_spread_0_39_ok
theorem ft_X6_spread_0 : F_X6_spread 0 = J_iload 1 1 := ftl_X6_spread_0
theorem ft_X6_spread_1 : F_X6_spread 1 = J_istore 3 2 := ftl_X6_spread_1
theorem ft_X6_spread_2 : F_X6_spread 2 = J_iload 2 3 := ftl_X6_spread_2
theorem ft_X6_spread_3 : F_X6_spread 3 = J_iconst 9 5 := ftl_X6_spread_3
theorem ft_X6_spread_5 : F_X6_spread 5 = J_mmin 8 := ftl_X6_spread_5
theorem ft_X6_spread_8 : F_X6_spread 8 = J_iconst 1 9 := ftl_X6_spread_8
theorem ft_X6_spread_9 : F_X6_spread 9 = J_isub 10 := ftl_X6_spread_9
theorem ft_X6_spread_10 : F_X6_spread 10 = J_istore 4 12 := ftl_X6_spread_10
theorem ft_X6_spread_12 : F_X6_spread 12 = J_iload 4 14 := ftl_X6_spread_12
theorem ft_X6_spread_14 : F_X6_spread 14 = J_iflt 39 17 := ftl_X6_spread_14
theorem ft_X6_spread_17 : F_X6_spread 17 = J_aload 0 18 := ftl_X6_spread_17
theorem ft_X6_spread_18 : F_X6_spread 18 = J_getfield 6 8 21 := ftl_X6_spread_18
theorem ft_X6_spread_21 : F_X6_spread 21 = J_iload 4 23 := ftl_X6_spread_21
theorem ft_X6_spread_23 : F_X6_spread 23 = J_iload 3 24 := ftl_X6_spread_23
theorem ft_X6_spread_24 : F_X6_spread 24 = J_iconst 10 26 := ftl_X6_spread_24
theorem ft_X6_spread_26 : F_X6_spread 26 = J_irem 27 := ftl_X6_spread_26
theorem ft_X6_spread_27 : F_X6_spread 27 = J_iastore 28 := ftl_X6_spread_27
theorem ft_X6_spread_28 : F_X6_spread 28 = J_iload 3 29 := ftl_X6_spread_28
theorem ft_X6_spread_29 : F_X6_spread 29 = J_iconst 10 31 := ftl_X6_spread_29
theorem ft_X6_spread_31 : F_X6_spread 31 = J_idiv 32 := ftl_X6_spread_31
theorem ft_X6_spread_32 : F_X6_spread 32 = J_istore 3 33 := ftl_X6_spread_32
theorem ft_X6_spread_33 : F_X6_spread 33 = J_iinc 4 (-1) 36 := ftl_X6_spread_33
theorem ft_X6_spread_36 : F_X6_spread 36 = J_goto 12 := ftl_X6_spread_36
theorem ft_X6_spread_39 : F_X6_spread 39 = J_return 0 0 := ftl_X6_spread_39
theorem lp_X6_spread {Q : jQ} {C : Nat → Nat → Int32} {z : Nat → Int64} {nb r n : Nat} {x0 : Option Value} (hr : r < 2 ^ 31) (hn : n ≤ 9) (h : Q none (memS 94 (hrow C 64 (sprd C r n 0)) z)) :
    ∀ j, j ≤ n → Rn Y_X6_spread none Q 12 [some (.ref 0), some (.int (nI r)), some (.int (nI n)), some (.int (nI (r / 10 ^ (n - j)))), some (.int (nI j - 1))] [] (memS 94 (hrow C 64 (sprd C r n j)) z) (nb, 0, 0) := by
  intro j
  induction j with
  | zero =>
    intro hj
    have hc : (nI 0 - 1 < 0) = True := eq_true (by decide)
    refine jrun_first OK_X6_spread (C := [12]) 60 ?_
    simp -implicitDefEqProofs only [jr_0, jr_1, jr_2, j_iconst, j_lconst, j_iload0, j_aload0, j_istore0, j_astore0, j_iinc0, j_iload1, j_aload1, j_istore1, j_astore1, j_iinc1, j_iload2, j_aload2, j_istore2, j_astore2, j_iinc2, j_iload3, j_aload3, j_istore3, j_astore3, j_iinc3, j_iload4, j_aload4, j_istore4, j_astore4, j_iinc4, j_iload5, j_aload5, j_istore5, j_astore5, j_iinc5, j_iload6, j_aload6, j_istore6, j_astore6, j_iinc6, j_iload7, j_aload7, j_istore7, j_astore7, j_iinc7, j_iload8, j_aload8, j_istore8, j_astore8, j_iinc8, j_iadd, j_isub, j_imul, j_iand, j_ior, j_ixor, j_ishl, j_ishr, j_iushr, j_idiv, j_irem, j_ineg, j_ladd, j_lmul, j_land, j_lor, j_lcmp, j_lushr, j_lshl, j_i2l, j_l2i, j_dupI, j_dupR, j_popI, j_dup2, j_ifeq, j_iceq, j_ifne, j_icne, j_iflt, j_iclt, j_ifge, j_icge, j_ifgt, j_icgt, j_ifle, j_icle, j_goto, j_tsw, j_sw0, j_sw1, j_ireturn, j_zreturn, j_lreturn, j_return, j_getfield, j_putI, j_putJ, j_putR, j_iaload, j_baload, j_iastore, j_bastore, j_aaload, j_q, j_aastore, j_acopy, j_mmin, j_mmax, j_mabs, j_objinit, j_new, j_newI, j_newQ, j_sld, j_slen, j_callV0, j_callI0, j_callS0, j_callV1, j_callI1, j_callS1, j_callV2, j_callI2, j_callS2, j_callV3, j_callS3, j_callV4, j_callS4, j_callV5, j_callS5, j_pushS, j_pushN, j_sh0, j_sh1, j_sh2, j_sh3, j_sh4, Int32.reduceAdd, Int32.reduceMul, Int32.reduceSub, Int32.reduceLT, Int32.reduceLE, eq_self, i32_10, i32_01, ne_eq, hrow_s, hrow_n, ne10, ne100, ne1000, ne7, ne4, ne14, ne9973, or_true, true_or, or_false, false_or, not_true_eq_false, not_false_eq_true, false_implies, implies_true, and_true, forall_const, true_implies, jargs_n, jargs_r, jargs_i, List.cons_append, List.nil_append, true_and, Nat.reduceEqDiff, reduceIte, ft_X6_spread_0, ft_X6_spread_1, ft_X6_spread_2, ft_X6_spread_3, ft_X6_spread_5, ft_X6_spread_8, ft_X6_spread_9, ft_X6_spread_10, ft_X6_spread_12, ft_X6_spread_14, ft_X6_spread_17, ft_X6_spread_18, ft_X6_spread_21, ft_X6_spread_23, ft_X6_spread_24, ft_X6_spread_26, ft_X6_spread_27, ft_X6_spread_28, ft_X6_spread_29, ft_X6_spread_31, ft_X6_spread_32, ft_X6_spread_33, ft_X6_spread_36, ft_X6_spread_39, hc]
    exact h
  | succ j ih =>
    intro hj
    have hk := ih (by omega)
    have hc : (nI j < 0) = False := eq_false (nI_pos (by omega))
    have v1 : vp_in (nI j) 9 := vp_in_nI (by omega) (by decide)
    have hd : r / 10 ^ (n - (j + 1)) < 2 ^ 31 := Nat.lt_of_le_of_lt (Nat.div_le_self _ _) hr
    have e1 : nI (r / 10 ^ (n - (j + 1))) / 10 = nI (r / 10 ^ (n - j)) := by
      rw [show (10 : Int32) = nI 10 from rfl, nI_div hd (by decide) (by decide), Nat.div_div_eq_div_mul, ← Nat.pow_succ, show (n - (j + 1)).succ = n - j by omega]
    have e2 : nI (r / 10 ^ (n - (j + 1))) - nI (r / 10 ^ (n - j)) * 10 = nI (dig r n j) := by
      rw [← e1, show (10 : Int32) = nI 10 from rfl, nI_mod hd (by decide) (by decide)]
      unfold dig
      rw [show n - 1 - j = n - (j + 1) by omega]
    refine jrun_first OK_X6_spread (C := [12]) 60 ?_
    simp -implicitDefEqProofs only [jr_0, jr_1, jr_2, j_iconst, j_lconst, j_iload0, j_aload0, j_istore0, j_astore0, j_iinc0, j_iload1, j_aload1, j_istore1, j_astore1, j_iinc1, j_iload2, j_aload2, j_istore2, j_astore2, j_iinc2, j_iload3, j_aload3, j_istore3, j_astore3, j_iinc3, j_iload4, j_aload4, j_istore4, j_astore4, j_iinc4, j_iload5, j_aload5, j_istore5, j_astore5, j_iinc5, j_iload6, j_aload6, j_istore6, j_astore6, j_iinc6, j_iload7, j_aload7, j_istore7, j_astore7, j_iinc7, j_iload8, j_aload8, j_istore8, j_astore8, j_iinc8, j_iadd, j_isub, j_imul, j_iand, j_ior, j_ixor, j_ishl, j_ishr, j_iushr, j_idiv, j_irem, j_ineg, j_ladd, j_lmul, j_land, j_lor, j_lcmp, j_lushr, j_lshl, j_i2l, j_l2i, j_dupI, j_dupR, j_popI, j_dup2, j_ifeq, j_iceq, j_ifne, j_icne, j_iflt, j_iclt, j_ifge, j_icge, j_ifgt, j_icgt, j_ifle, j_icle, j_goto, j_tsw, j_sw0, j_sw1, j_ireturn, j_zreturn, j_lreturn, j_return, j_getfield, j_putI, j_putJ, j_putR, j_iaload, j_baload, j_iastore, j_bastore, j_aaload, j_q, j_aastore, j_acopy, j_mmin, j_mmax, j_mabs, j_objinit, j_new, j_newI, j_newQ, j_sld, j_slen, j_callV0, j_callI0, j_callS0, j_callV1, j_callI1, j_callS1, j_callV2, j_callI2, j_callS2, j_callV3, j_callS3, j_callV4, j_callS4, j_callV5, j_callS5, j_pushS, j_pushN, j_sh0, j_sh1, j_sh2, j_sh3, j_sh4, Int32.reduceAdd, Int32.reduceMul, Int32.reduceSub, Int32.reduceLT, Int32.reduceLE, eq_self, i32_10, i32_01, ne_eq, hrow_s, hrow_n, ne10, ne100, ne1000, ne7, ne4, ne14, ne9973, or_true, true_or, or_false, false_or, not_true_eq_false, not_false_eq_true, false_implies, implies_true, and_true, forall_const, true_implies, jargs_n, jargs_r, jargs_i, List.cons_append, List.nil_append, true_and, Nat.reduceEqDiff, reduceIte, ft_X6_spread_0, ft_X6_spread_1, ft_X6_spread_2, ft_X6_spread_3, ft_X6_spread_5, ft_X6_spread_8, ft_X6_spread_9, ft_X6_spread_10, ft_X6_spread_12, ft_X6_spread_14, ft_X6_spread_17, ft_X6_spread_18, ft_X6_spread_21, ft_X6_spread_23, ft_X6_spread_24, ft_X6_spread_26, ft_X6_spread_27, ft_X6_spread_28, ft_X6_spread_29, ft_X6_spread_31, ft_X6_spread_32, ft_X6_spread_33, ft_X6_spread_36, ft_X6_spread_39, nI_s1, hc, fl_0_8, as_64, e1, e2, v1, i32_sm, hrow_hrow, nI_clamp (show j < 2 ^ 31 by omega), sprd_s (C := C) (r := r) (show j < n by omega)]
    exact hk
theorem ok_X6_spread : jMeets Y_X6_spread S_X6_spread := by
  intro nb vs mem Q h
  obtain ⟨C, z, r, n, rfl, rfl, hr, hn, hQ⟩ := h
  refine Ok.run OK_X6_spread [12] 60 [none, none] pn6 (Nat.le_of_ble_eq_true rfl) rfl ?_
  have e3 : minI (nI n) 9 = nI n := by
    rw [show (9 : Int32) = nI 9 from rfl, minI_nI (by omega) (by decide), Nat.min_eq_left hn]
  simp -implicitDefEqProofs only [jr_0, jr_1, jr_2, j_iconst, j_lconst, j_iload0, j_aload0, j_istore0, j_astore0, j_iinc0, j_iload1, j_aload1, j_istore1, j_astore1, j_iinc1, j_iload2, j_aload2, j_istore2, j_astore2, j_iinc2, j_iload3, j_aload3, j_istore3, j_astore3, j_iinc3, j_iload4, j_aload4, j_istore4, j_astore4, j_iinc4, j_iload5, j_aload5, j_istore5, j_astore5, j_iinc5, j_iload6, j_aload6, j_istore6, j_astore6, j_iinc6, j_iload7, j_aload7, j_istore7, j_astore7, j_iinc7, j_iload8, j_aload8, j_istore8, j_astore8, j_iinc8, j_iadd, j_isub, j_imul, j_iand, j_ior, j_ixor, j_ishl, j_ishr, j_iushr, j_idiv, j_irem, j_ineg, j_ladd, j_lmul, j_land, j_lor, j_lcmp, j_lushr, j_lshl, j_i2l, j_l2i, j_dupI, j_dupR, j_popI, j_dup2, j_ifeq, j_iceq, j_ifne, j_icne, j_iflt, j_iclt, j_ifge, j_icge, j_ifgt, j_icgt, j_ifle, j_icle, j_goto, j_tsw, j_sw0, j_sw1, j_ireturn, j_zreturn, j_lreturn, j_return, j_getfield, j_putI, j_putJ, j_putR, j_iaload, j_baload, j_iastore, j_bastore, j_aaload, j_q, j_aastore, j_acopy, j_mmin, j_mmax, j_mabs, j_objinit, j_new, j_newI, j_newQ, j_sld, j_slen, j_callV0, j_callI0, j_callS0, j_callV1, j_callI1, j_callS1, j_callV2, j_callI2, j_callS2, j_callV3, j_callS3, j_callV4, j_callS4, j_callV5, j_callS5, j_pushS, j_pushN, j_sh0, j_sh1, j_sh2, j_sh3, j_sh4, Int32.reduceAdd, Int32.reduceMul, Int32.reduceSub, Int32.reduceLT, Int32.reduceLE, eq_self, i32_10, i32_01, ne_eq, hrow_s, hrow_n, ne10, ne100, ne1000, ne7, ne4, ne14, ne9973, or_true, true_or, or_false, false_or, not_true_eq_false, not_false_eq_true, false_implies, implies_true, and_true, forall_const, true_implies, jargs_n, jargs_r, jargs_i, List.cons_append, List.nil_append, true_and, Nat.reduceEqDiff, reduceIte, ft_X6_spread_0, ft_X6_spread_1, ft_X6_spread_2, ft_X6_spread_3, ft_X6_spread_5, ft_X6_spread_8, ft_X6_spread_9, ft_X6_spread_10, ft_X6_spread_12, ft_X6_spread_14, ft_X6_spread_17, ft_X6_spread_18, ft_X6_spread_21, ft_X6_spread_23, ft_X6_spread_24, ft_X6_spread_26, ft_X6_spread_27, ft_X6_spread_28, ft_X6_spread_29, ft_X6_spread_31, ft_X6_spread_32, ft_X6_spread_33, ft_X6_spread_36, ft_X6_spread_39, e3]
  have := lp_X6_spread (nb := nb) (Q := Q) (z := z) (C := C) (x0 := none) hr hn hQ n (Nat.le_refl _)
  rw [sprd_n, hrow_self, Nat.sub_self, Nat.pow_zero, Nat.div_one] at this
  exact this
theorem s_X6_spread {nb r n : Nat} {C : Nat → Nat → Int32} {z : Nat → Int64} {Q : jQ} (hr : r < 2 ^ 31) (hn : n ≤ 9) (hQ : Q none (memS 94 (hrow C 64 (sprd C r n 0)) z)) : S_X6_spread nb [.ref 0, .int (nI r), .int (nI n)] (memS 94 C z) Q := ⟨C, z, r, n, rfl, rfl, hr, hn, hQ⟩
/-- the sign of the first i digits of a row of n digits -/
def sgnF (p : Int32) (r n : Nat) : Nat → Int32
  | 0 => 0
  | i + 1 => if dig r n i = 0 then sgnF p r n i else signF (sgnF p r n i) p (nI (dig r n i))
def S_X6_signOfRow : jSp := fun _ vs mem Q => ∃ C z r n, ∃ p : Int32, vs = [.ref 0, .int p, .int (nI n), .int (nI r)] ∧ mem = memS 94 C z ∧ r < 2 ^ 31 ∧ n ≤ 9 ∧ Q (some (.int (sgnF p r n n))) (memS 94 (hrow C 64 (sprd C r n 0)) z)
def F_X6_signOfRow_0 : Nat → jT := fun pc => (bif Nat.blt pc 10 then (bif Nat.blt pc 3 then (bif Nat.blt pc 1 then (bif Nat.beq pc 0 then J_aload 0 1 else jbad) else (bif Nat.blt pc 2 then (bif Nat.beq pc 1 then J_iload 3 2 else jbad) else (bif Nat.beq pc 2 then J_iload 2 3 else jbad))) else (bif Nat.blt pc 7 then (bif Nat.blt pc 6 then (bif Nat.beq pc 3 then J_callV 6 S_X6_spread 2 6 else jbad) else (bif Nat.beq pc 6 then J_iconst 0 7 else jbad)) else (bif Nat.blt pc 9 then (bif Nat.beq pc 7 then J_istore 4 9 else jbad) else (bif Nat.beq pc 9 then J_iconst 0 10 else jbad)))) else (bif Nat.blt pc 18 then (bif Nat.blt pc 14 then (bif Nat.blt pc 12 then (bif Nat.beq pc 10 then J_istore 5 12 else jbad) else (bif Nat.beq pc 12 then J_iload 5 14 else jbad)) else (bif Nat.blt pc 15 then (bif Nat.beq pc 14 then J_iload 2 15 else jbad) else (bif Nat.beq pc 15 then J_icge 56 18 else jbad))) else (bif Nat.blt pc 22 then (bif Nat.blt pc 20 then (bif Nat.beq pc 18 then J_iload 5 20 else jbad) else (bif Nat.beq pc 20 then J_iconst 9 22 else jbad)) else (bif Nat.blt pc 25 then (bif Nat.beq pc 22 then J_icge 56 25 else jbad) else (bif Nat.beq pc 25 then J_aload 0 26 else jbad)))))
theorem ftl_X6_signOfRow_0 : F_X6_signOfRow_0 0 = J_aload 0 1 := rfl
theorem ftl_X6_signOfRow_1 : F_X6_signOfRow_0 1 = J_iload 3 2 := rfl
theorem ftl_X6_signOfRow_2 : F_X6_signOfRow_0 2 = J_iload 2 3 := rfl
theorem ftl_X6_signOfRow_3 : F_X6_signOfRow_0 3 = J_callV 6 S_X6_spread 2 6 := rfl
theorem ftl_X6_signOfRow_6 : F_X6_signOfRow_0 6 = J_iconst 0 7 := rfl
theorem ftl_X6_signOfRow_7 : F_X6_signOfRow_0 7 = J_istore 4 9 := rfl
theorem ftl_X6_signOfRow_9 : F_X6_signOfRow_0 9 = J_iconst 0 10 := rfl
theorem ftl_X6_signOfRow_10 : F_X6_signOfRow_0 10 = J_istore 5 12 := rfl
theorem ftl_X6_signOfRow_12 : F_X6_signOfRow_0 12 = J_iload 5 14 := rfl
theorem ftl_X6_signOfRow_14 : F_X6_signOfRow_0 14 = J_iload 2 15 := rfl
theorem ftl_X6_signOfRow_15 : F_X6_signOfRow_0 15 = J_icge 56 18 := rfl
theorem ftl_X6_signOfRow_18 : F_X6_signOfRow_0 18 = J_iload 5 20 := rfl
theorem ftl_X6_signOfRow_20 : F_X6_signOfRow_0 20 = J_iconst 9 22 := rfl
theorem ftl_X6_signOfRow_22 : F_X6_signOfRow_0 22 = J_icge 56 25 := rfl
theorem ftl_X6_signOfRow_25 : F_X6_signOfRow_0 25 = J_aload 0 26 := rfl
theorem F_X6_signOfRow_0_ok : jOK Y_X6_signOfRow none (F_X6_signOfRow_0) := (jOK_node (jOK_node (jOK_node (jOK_leaf (sn_aload_n dX6_signOfRow_0 rfl rfl)) (jOK_node (jOK_leaf (sn_iload_n dX6_signOfRow_1 rfl rfl)) (jOK_leaf (sn_iload_n dX6_signOfRow_2 rfl rfl)))) (jOK_node (jOK_node (jOK_leaf (sn_callV (Y' := Y_X6_spread) ok_X6_spread dX6_signOfRow_3 rfl rfl rfl tw_512 tw_514 tp_20 tw_1 jc_X6_spread rfl ⟨by decide, by decide, rfl⟩ ⟨by decide, by decide⟩)) (jOK_leaf (sn_iconst dX6_signOfRow_6 rfl rfl))) (jOK_node (jOK_leaf (sn_istore dX6_signOfRow_7 rfl (by decide))) (jOK_leaf (sn_iconst dX6_signOfRow_9 rfl rfl))))) (jOK_node (jOK_node (jOK_node (jOK_leaf (sn_istore dX6_signOfRow_10 rfl (by decide))) (jOK_leaf (sn_iload dX6_signOfRow_12 rfl))) (jOK_node (jOK_leaf (sn_iload_n dX6_signOfRow_14 rfl rfl)) (jOK_leaf (sn_icge dX6_signOfRow_15 rfl rfl)))) (jOK_node (jOK_node (jOK_leaf (sn_iload dX6_signOfRow_18 rfl)) (jOK_leaf (sn_bipush dX6_signOfRow_20 rfl rfl))) (jOK_node (jOK_leaf (sn_icge dX6_signOfRow_22 rfl rfl)) (jOK_leaf (sn_aload_n dX6_signOfRow_25 rfl rfl))))))
def F_X6_signOfRow_26 : Nat → jT := fun pc => (bif Nat.blt pc 42 then (bif Nat.blt pc 35 then (bif Nat.blt pc 31 then (bif Nat.blt pc 29 then (bif Nat.beq pc 26 then J_getfield 6 8 29 else jbad) else (bif Nat.beq pc 29 then J_iload 5 31 else jbad)) else (bif Nat.blt pc 32 then (bif Nat.beq pc 31 then J_iaload 32 else jbad) else (bif Nat.beq pc 32 then J_ifeq 50 35 else jbad))) else (bif Nat.blt pc 38 then (bif Nat.blt pc 37 then (bif Nat.beq pc 35 then J_iload 4 37 else jbad) else (bif Nat.beq pc 37 then J_iload 1 38 else jbad)) else (bif Nat.blt pc 39 then (bif Nat.beq pc 38 then J_aload 0 39 else jbad) else (bif Nat.beq pc 39 then J_getfield 6 8 42 else jbad)))) else (bif Nat.blt pc 50 then (bif Nat.blt pc 45 then (bif Nat.blt pc 44 then (bif Nat.beq pc 42 then J_iload 5 44 else jbad) else (bif Nat.beq pc 44 then J_iaload 45 else jbad)) else (bif Nat.blt pc 48 then (bif Nat.beq pc 45 then J_callS S_X6_nextSign 3 48 else jbad) else (bif Nat.beq pc 48 then J_istore 4 50 else jbad))) else (bif Nat.blt pc 56 then (bif Nat.blt pc 53 then (bif Nat.beq pc 50 then J_iinc 5 1 53 else jbad) else (bif Nat.beq pc 53 then J_goto 12 else jbad)) else (bif Nat.blt pc 58 then (bif Nat.beq pc 56 then J_iload 4 58 else jbad) else (bif Nat.beq pc 58 then J_ireturn 0 0 else jbad)))))
theorem ftl_X6_signOfRow_26 : F_X6_signOfRow_26 26 = J_getfield 6 8 29 := rfl
theorem ftl_X6_signOfRow_29 : F_X6_signOfRow_26 29 = J_iload 5 31 := rfl
theorem ftl_X6_signOfRow_31 : F_X6_signOfRow_26 31 = J_iaload 32 := rfl
theorem ftl_X6_signOfRow_32 : F_X6_signOfRow_26 32 = J_ifeq 50 35 := rfl
theorem ftl_X6_signOfRow_35 : F_X6_signOfRow_26 35 = J_iload 4 37 := rfl
theorem ftl_X6_signOfRow_37 : F_X6_signOfRow_26 37 = J_iload 1 38 := rfl
theorem ftl_X6_signOfRow_38 : F_X6_signOfRow_26 38 = J_aload 0 39 := rfl
theorem ftl_X6_signOfRow_39 : F_X6_signOfRow_26 39 = J_getfield 6 8 42 := rfl
theorem ftl_X6_signOfRow_42 : F_X6_signOfRow_26 42 = J_iload 5 44 := rfl
theorem ftl_X6_signOfRow_44 : F_X6_signOfRow_26 44 = J_iaload 45 := rfl
theorem ftl_X6_signOfRow_45 : F_X6_signOfRow_26 45 = J_callS S_X6_nextSign 3 48 := rfl
theorem ftl_X6_signOfRow_48 : F_X6_signOfRow_26 48 = J_istore 4 50 := rfl
theorem ftl_X6_signOfRow_50 : F_X6_signOfRow_26 50 = J_iinc 5 1 53 := rfl
theorem ftl_X6_signOfRow_53 : F_X6_signOfRow_26 53 = J_goto 12 := rfl
theorem ftl_X6_signOfRow_56 : F_X6_signOfRow_26 56 = J_iload 4 58 := rfl
theorem ftl_X6_signOfRow_58 : F_X6_signOfRow_26 58 = J_ireturn 0 0 := rfl
theorem F_X6_signOfRow_26_ok : jOK Y_X6_signOfRow none (F_X6_signOfRow_26) := (jOK_node (jOK_node (jOK_node (jOK_node (jOK_leaf (sn_getfield dX6_signOfRow_26 rfl rfl (by decide) tw_174 jin6)) (jOK_leaf (sn_iload dX6_signOfRow_29 rfl))) (jOK_node (jOK_leaf (sn_iaload dX6_signOfRow_31 rfl)) (jOK_leaf (sn_ifeq dX6_signOfRow_32 rfl rfl)))) (jOK_node (jOK_node (jOK_leaf (sn_iload dX6_signOfRow_35 rfl)) (jOK_leaf (sn_iload_n dX6_signOfRow_37 rfl rfl))) (jOK_node (jOK_leaf (sn_aload_n dX6_signOfRow_38 rfl rfl)) (jOK_leaf (sn_getfield dX6_signOfRow_39 rfl rfl (by decide) tw_174 jin6))))) (jOK_node (jOK_node (jOK_node (jOK_leaf (sn_iload dX6_signOfRow_42 rfl)) (jOK_leaf (sn_iaload dX6_signOfRow_44 rfl))) (jOK_node (jOK_leaf (sn_callS (Y' := Y_X6_nextSign) ok_X6_nextSign dX6_signOfRow_45 rfl rfl tw_517 tw_395 tw_1 jc_X6_nextSign ⟨by decide, by decide, rfl⟩ ⟨by decide, by decide⟩)) (jOK_leaf (sn_istore dX6_signOfRow_48 rfl (by decide))))) (jOK_node (jOK_node (jOK_leaf (sn_iinc dX6_signOfRow_50 rfl rfl (by decide))) (jOK_leaf (sn_goto dX6_signOfRow_53 rfl))) (jOK_node (jOK_leaf (sn_iload dX6_signOfRow_56 rfl)) (jOK_leaf (sn_ireturn dX6_signOfRow_58 rfl rfl))))))
def F_X6_signOfRow_0_58 : Nat → jT := fun pc => bif Nat.blt pc 26 then F_X6_signOfRow_0 pc else F_X6_signOfRow_26 pc
theorem F_X6_signOfRow_0_58_ok : jOK Y_X6_signOfRow none (F_X6_signOfRow_0_58) := jOK_node (F_X6_signOfRow_0_ok) (F_X6_signOfRow_26_ok)
def F_X6_signOfRow : Nat → jT := F_X6_signOfRow_0_58
theorem OK_X6_signOfRow : jOK Y_X6_signOfRow none (F_X6_signOfRow) := F_X6_signOfRow_0_58_ok
theorem ft_X6_signOfRow_0 : F_X6_signOfRow 0 = J_aload 0 1 := ftl_X6_signOfRow_0
theorem ft_X6_signOfRow_1 : F_X6_signOfRow 1 = J_iload 3 2 := ftl_X6_signOfRow_1
theorem ft_X6_signOfRow_2 : F_X6_signOfRow 2 = J_iload 2 3 := ftl_X6_signOfRow_2
theorem ft_X6_signOfRow_3 : F_X6_signOfRow 3 = J_callV 6 S_X6_spread 2 6 := ftl_X6_signOfRow_3
theorem ft_X6_signOfRow_6 : F_X6_signOfRow 6 = J_iconst 0 7 := ftl_X6_signOfRow_6
theorem ft_X6_signOfRow_7 : F_X6_signOfRow 7 = J_istore 4 9 := ftl_X6_signOfRow_7
theorem ft_X6_signOfRow_9 : F_X6_signOfRow 9 = J_iconst 0 10 := ftl_X6_signOfRow_9
theorem ft_X6_signOfRow_10 : F_X6_signOfRow 10 = J_istore 5 12 := ftl_X6_signOfRow_10
theorem ft_X6_signOfRow_12 : F_X6_signOfRow 12 = J_iload 5 14 := ftl_X6_signOfRow_12
theorem ft_X6_signOfRow_14 : F_X6_signOfRow 14 = J_iload 2 15 := ftl_X6_signOfRow_14
theorem ft_X6_signOfRow_15 : F_X6_signOfRow 15 = J_icge 56 18 := ftl_X6_signOfRow_15
theorem ft_X6_signOfRow_18 : F_X6_signOfRow 18 = J_iload 5 20 := ftl_X6_signOfRow_18
theorem ft_X6_signOfRow_20 : F_X6_signOfRow 20 = J_iconst 9 22 := ftl_X6_signOfRow_20
theorem ft_X6_signOfRow_22 : F_X6_signOfRow 22 = J_icge 56 25 := ftl_X6_signOfRow_22
theorem ft_X6_signOfRow_25 : F_X6_signOfRow 25 = J_aload 0 26 := ftl_X6_signOfRow_25
theorem ft_X6_signOfRow_26 : F_X6_signOfRow 26 = J_getfield 6 8 29 := ftl_X6_signOfRow_26
theorem ft_X6_signOfRow_29 : F_X6_signOfRow 29 = J_iload 5 31 := ftl_X6_signOfRow_29
theorem ft_X6_signOfRow_31 : F_X6_signOfRow 31 = J_iaload 32 := ftl_X6_signOfRow_31
theorem ft_X6_signOfRow_32 : F_X6_signOfRow 32 = J_ifeq 50 35 := ftl_X6_signOfRow_32
theorem ft_X6_signOfRow_35 : F_X6_signOfRow 35 = J_iload 4 37 := ftl_X6_signOfRow_35
theorem ft_X6_signOfRow_37 : F_X6_signOfRow 37 = J_iload 1 38 := ftl_X6_signOfRow_37
theorem ft_X6_signOfRow_38 : F_X6_signOfRow 38 = J_aload 0 39 := ftl_X6_signOfRow_38
theorem ft_X6_signOfRow_39 : F_X6_signOfRow 39 = J_getfield 6 8 42 := ftl_X6_signOfRow_39
theorem ft_X6_signOfRow_42 : F_X6_signOfRow 42 = J_iload 5 44 := ftl_X6_signOfRow_42
theorem ft_X6_signOfRow_44 : F_X6_signOfRow 44 = J_iaload 45 := ftl_X6_signOfRow_44
theorem ft_X6_signOfRow_45 : F_X6_signOfRow 45 = J_callS S_X6_nextSign 3 48 := ftl_X6_signOfRow_45
theorem ft_X6_signOfRow_48 : F_X6_signOfRow 48 = J_istore 4 50 := ftl_X6_signOfRow_48
theorem ft_X6_signOfRow_50 : F_X6_signOfRow 50 = J_iinc 5 1 53 := ftl_X6_signOfRow_50
theorem ft_X6_signOfRow_53 : F_X6_signOfRow 53 = J_goto 12 := ftl_X6_signOfRow_53
theorem ft_X6_signOfRow_56 : F_X6_signOfRow 56 = J_iload 4 58 := ftl_X6_signOfRow_56
theorem ft_X6_signOfRow_58 : F_X6_signOfRow 58 = J_ireturn 0 0 := ftl_X6_signOfRow_58
theorem lp_X6_signOfRow {Q : jQ} {C : Nat → Nat → Int32} {z : Nat → Int64} {nb r n : Nat} {p : Int32} (hn : n ≤ 9) (h : Q (some (.int (sgnF p r n n))) (memS 94 (hrow C 64 (sprd C r n 0)) z)) :
    ∀ k j, j + k = n → Rn Y_X6_signOfRow none Q 12 [some (.ref 0), some (.int p), some (.int (nI n)), some (.int (nI r)), some (.int (sgnF p r n j)), some (.int (nI j))] [] (memS 94 (hrow C 64 (sprd C r n 0)) z) (nb, 0, 0) := by
  intro k
  induction k with
  | zero =>
    intro j hj
    have hc : (nI n ≤ nI j) = True := eq_true (nI_le (by omega) (by omega))
    refine jrun_first OK_X6_signOfRow (C := [12]) 60 ?_
    simp -implicitDefEqProofs only [jr_0, jr_1, jr_2, j_iconst, j_lconst, j_iload0, j_aload0, j_istore0, j_astore0, j_iinc0, j_iload1, j_aload1, j_istore1, j_astore1, j_iinc1, j_iload2, j_aload2, j_istore2, j_astore2, j_iinc2, j_iload3, j_aload3, j_istore3, j_astore3, j_iinc3, j_iload4, j_aload4, j_istore4, j_astore4, j_iinc4, j_iload5, j_aload5, j_istore5, j_astore5, j_iinc5, j_iload6, j_aload6, j_istore6, j_astore6, j_iinc6, j_iload7, j_aload7, j_istore7, j_astore7, j_iinc7, j_iload8, j_aload8, j_istore8, j_astore8, j_iinc8, j_iadd, j_isub, j_imul, j_iand, j_ior, j_ixor, j_ishl, j_ishr, j_iushr, j_idiv, j_irem, j_ineg, j_ladd, j_lmul, j_land, j_lor, j_lcmp, j_lushr, j_lshl, j_i2l, j_l2i, j_dupI, j_dupR, j_popI, j_dup2, j_ifeq, j_iceq, j_ifne, j_icne, j_iflt, j_iclt, j_ifge, j_icge, j_ifgt, j_icgt, j_ifle, j_icle, j_goto, j_tsw, j_sw0, j_sw1, j_ireturn, j_zreturn, j_lreturn, j_return, j_getfield, j_putI, j_putJ, j_putR, j_iaload, j_baload, j_iastore, j_bastore, j_aaload, j_q, j_aastore, j_acopy, j_mmin, j_mmax, j_mabs, j_objinit, j_new, j_newI, j_newQ, j_sld, j_slen, j_callV0, j_callI0, j_callS0, j_callV1, j_callI1, j_callS1, j_callV2, j_callI2, j_callS2, j_callV3, j_callS3, j_callV4, j_callS4, j_callV5, j_callS5, j_pushS, j_pushN, j_sh0, j_sh1, j_sh2, j_sh3, j_sh4, Int32.reduceAdd, Int32.reduceMul, Int32.reduceSub, Int32.reduceLT, Int32.reduceLE, eq_self, i32_10, i32_01, ne_eq, hrow_s, hrow_n, ne10, ne100, ne1000, ne7, ne4, ne14, ne9973, or_true, true_or, or_false, false_or, not_true_eq_false, not_false_eq_true, false_implies, implies_true, and_true, forall_const, true_implies, jargs_n, jargs_r, jargs_i, List.cons_append, List.nil_append, true_and, Nat.reduceEqDiff, reduceIte, ft_X6_signOfRow_0, ft_X6_signOfRow_1, ft_X6_signOfRow_2, ft_X6_signOfRow_3, ft_X6_signOfRow_6, ft_X6_signOfRow_7, ft_X6_signOfRow_9, ft_X6_signOfRow_10, ft_X6_signOfRow_12, ft_X6_signOfRow_14, ft_X6_signOfRow_15, ft_X6_signOfRow_18, ft_X6_signOfRow_20, ft_X6_signOfRow_22, ft_X6_signOfRow_25, ft_X6_signOfRow_26, ft_X6_signOfRow_29, ft_X6_signOfRow_31, ft_X6_signOfRow_32, ft_X6_signOfRow_35, ft_X6_signOfRow_37, ft_X6_signOfRow_38, ft_X6_signOfRow_39, ft_X6_signOfRow_42, ft_X6_signOfRow_44, ft_X6_signOfRow_45, ft_X6_signOfRow_48, ft_X6_signOfRow_50, ft_X6_signOfRow_53, ft_X6_signOfRow_56, ft_X6_signOfRow_58, hc]
    rw [show j = n by omega]
    exact h
  | succ k ih =>
    intro j hj
    have hc : (nI n ≤ nI j) = False := eq_false (nI_ge (by omega) (by omega))
    have hc9 : (9 ≤ nI j) = False := eq_false (nI_ge (b := 9) (by omega) (by decide))
    have hk := ih (j + 1) (by omega)
    have v1 : vp_in (nI j) 9 := vp_in_nI (by omega) (by decide)
    unfold sgnF at hk
    have e0 : (nI (dig r n j) = 0) = (dig r n j = 0) := nI_eqq (b := 0) (by have := dig_lt (r := r) (m := n) (i := j); omega) (by decide)
    refine jrun_first OK_X6_signOfRow (C := [12]) 60 ?_
    simp -implicitDefEqProofs only [jr_0, jr_1, jr_2, j_iconst, j_lconst, j_iload0, j_aload0, j_istore0, j_astore0, j_iinc0, j_iload1, j_aload1, j_istore1, j_astore1, j_iinc1, j_iload2, j_aload2, j_istore2, j_astore2, j_iinc2, j_iload3, j_aload3, j_istore3, j_astore3, j_iinc3, j_iload4, j_aload4, j_istore4, j_astore4, j_iinc4, j_iload5, j_aload5, j_istore5, j_astore5, j_iinc5, j_iload6, j_aload6, j_istore6, j_astore6, j_iinc6, j_iload7, j_aload7, j_istore7, j_astore7, j_iinc7, j_iload8, j_aload8, j_istore8, j_astore8, j_iinc8, j_iadd, j_isub, j_imul, j_iand, j_ior, j_ixor, j_ishl, j_ishr, j_iushr, j_idiv, j_irem, j_ineg, j_ladd, j_lmul, j_land, j_lor, j_lcmp, j_lushr, j_lshl, j_i2l, j_l2i, j_dupI, j_dupR, j_popI, j_dup2, j_ifeq, j_iceq, j_ifne, j_icne, j_iflt, j_iclt, j_ifge, j_icge, j_ifgt, j_icgt, j_ifle, j_icle, j_goto, j_tsw, j_sw0, j_sw1, j_ireturn, j_zreturn, j_lreturn, j_return, j_getfield, j_putI, j_putJ, j_putR, j_iaload, j_baload, j_iastore, j_bastore, j_aaload, j_q, j_aastore, j_acopy, j_mmin, j_mmax, j_mabs, j_objinit, j_new, j_newI, j_newQ, j_sld, j_slen, j_callV0, j_callI0, j_callS0, j_callV1, j_callI1, j_callS1, j_callV2, j_callI2, j_callS2, j_callV3, j_callS3, j_callV4, j_callS4, j_callV5, j_callS5, j_pushS, j_pushN, j_sh0, j_sh1, j_sh2, j_sh3, j_sh4, Int32.reduceAdd, Int32.reduceMul, Int32.reduceSub, Int32.reduceLT, Int32.reduceLE, eq_self, i32_10, i32_01, ne_eq, hrow_s, hrow_n, ne10, ne100, ne1000, ne7, ne4, ne14, ne9973, or_true, true_or, or_false, false_or, not_true_eq_false, not_false_eq_true, false_implies, implies_true, and_true, forall_const, true_implies, jargs_n, jargs_r, jargs_i, List.cons_append, List.nil_append, true_and, Nat.reduceEqDiff, reduceIte, ft_X6_signOfRow_0, ft_X6_signOfRow_1, ft_X6_signOfRow_2, ft_X6_signOfRow_3, ft_X6_signOfRow_6, ft_X6_signOfRow_7, ft_X6_signOfRow_9, ft_X6_signOfRow_10, ft_X6_signOfRow_12, ft_X6_signOfRow_14, ft_X6_signOfRow_15, ft_X6_signOfRow_18, ft_X6_signOfRow_20, ft_X6_signOfRow_22, ft_X6_signOfRow_25, ft_X6_signOfRow_26, ft_X6_signOfRow_29, ft_X6_signOfRow_31, ft_X6_signOfRow_32, ft_X6_signOfRow_35, ft_X6_signOfRow_37, ft_X6_signOfRow_38, ft_X6_signOfRow_39, ft_X6_signOfRow_42, ft_X6_signOfRow_44, ft_X6_signOfRow_45, ft_X6_signOfRow_48, ft_X6_signOfRow_50, ft_X6_signOfRow_53, ft_X6_signOfRow_56, ft_X6_signOfRow_58, hc, hc9, fl_0_8, al_64, v1, nI_1, s_X6_nextSign, nI_clamp (show j < 2 ^ 31 by omega), sprd_at (C := C) (r := r) (show j < n by omega), e0]
    by_cases h0 : dig r n j = 0
    · rw [if_pos h0] at hk
      simp only [h0, not_true_eq_false, not_false_eq_true, true_implies, false_implies, implies_true, and_true, true_and, forall_const]; exact hk
    · rw [if_neg h0] at hk
      simp only [h0, not_true_eq_false, not_false_eq_true, true_implies, false_implies, implies_true, and_true, true_and, forall_const]; exact hk
theorem ok_X6_signOfRow : jMeets Y_X6_signOfRow S_X6_signOfRow := by
  intro nb vs mem Q h
  obtain ⟨C, z, r, n, p, rfl, rfl, hr, hn, hQ⟩ := h
  refine Ok.run OK_X6_signOfRow [12] 60 [none, none] pn6 (Nat.le_of_ble_eq_true rfl) rfl ?_
  simp -implicitDefEqProofs only [jr_0, jr_1, jr_2, j_iconst, j_lconst, j_iload0, j_aload0, j_istore0, j_astore0, j_iinc0, j_iload1, j_aload1, j_istore1, j_astore1, j_iinc1, j_iload2, j_aload2, j_istore2, j_astore2, j_iinc2, j_iload3, j_aload3, j_istore3, j_astore3, j_iinc3, j_iload4, j_aload4, j_istore4, j_astore4, j_iinc4, j_iload5, j_aload5, j_istore5, j_astore5, j_iinc5, j_iload6, j_aload6, j_istore6, j_astore6, j_iinc6, j_iload7, j_aload7, j_istore7, j_astore7, j_iinc7, j_iload8, j_aload8, j_istore8, j_astore8, j_iinc8, j_iadd, j_isub, j_imul, j_iand, j_ior, j_ixor, j_ishl, j_ishr, j_iushr, j_idiv, j_irem, j_ineg, j_ladd, j_lmul, j_land, j_lor, j_lcmp, j_lushr, j_lshl, j_i2l, j_l2i, j_dupI, j_dupR, j_popI, j_dup2, j_ifeq, j_iceq, j_ifne, j_icne, j_iflt, j_iclt, j_ifge, j_icge, j_ifgt, j_icgt, j_ifle, j_icle, j_goto, j_tsw, j_sw0, j_sw1, j_ireturn, j_zreturn, j_lreturn, j_return, j_getfield, j_putI, j_putJ, j_putR, j_iaload, j_baload, j_iastore, j_bastore, j_aaload, j_q, j_aastore, j_acopy, j_mmin, j_mmax, j_mabs, j_objinit, j_new, j_newI, j_newQ, j_sld, j_slen, j_callV0, j_callI0, j_callS0, j_callV1, j_callI1, j_callS1, j_callV2, j_callI2, j_callS2, j_callV3, j_callS3, j_callV4, j_callS4, j_callV5, j_callS5, j_pushS, j_pushN, j_sh0, j_sh1, j_sh2, j_sh3, j_sh4, Int32.reduceAdd, Int32.reduceMul, Int32.reduceSub, Int32.reduceLT, Int32.reduceLE, eq_self, i32_10, i32_01, ne_eq, hrow_s, hrow_n, ne10, ne100, ne1000, ne7, ne4, ne14, ne9973, or_true, true_or, or_false, false_or, not_true_eq_false, not_false_eq_true, false_implies, implies_true, and_true, forall_const, true_implies, jargs_n, jargs_r, jargs_i, List.cons_append, List.nil_append, true_and, Nat.reduceEqDiff, reduceIte, ft_X6_signOfRow_0, ft_X6_signOfRow_1, ft_X6_signOfRow_2, ft_X6_signOfRow_3, ft_X6_signOfRow_6, ft_X6_signOfRow_7, ft_X6_signOfRow_9, ft_X6_signOfRow_10, ft_X6_signOfRow_12, ft_X6_signOfRow_14, ft_X6_signOfRow_15, ft_X6_signOfRow_18, ft_X6_signOfRow_20, ft_X6_signOfRow_22, ft_X6_signOfRow_25, ft_X6_signOfRow_26, ft_X6_signOfRow_29, ft_X6_signOfRow_31, ft_X6_signOfRow_32, ft_X6_signOfRow_35, ft_X6_signOfRow_37, ft_X6_signOfRow_38, ft_X6_signOfRow_39, ft_X6_signOfRow_42, ft_X6_signOfRow_44, ft_X6_signOfRow_45, ft_X6_signOfRow_48, ft_X6_signOfRow_50, ft_X6_signOfRow_53, ft_X6_signOfRow_56, ft_X6_signOfRow_58, rc_0]
  refine s_X6_spread hr hn ?_
  simp -implicitDefEqProofs only [jr_0, jr_1, jr_2, j_iconst, j_lconst, j_iload0, j_aload0, j_istore0, j_astore0, j_iinc0, j_iload1, j_aload1, j_istore1, j_astore1, j_iinc1, j_iload2, j_aload2, j_istore2, j_astore2, j_iinc2, j_iload3, j_aload3, j_istore3, j_astore3, j_iinc3, j_iload4, j_aload4, j_istore4, j_astore4, j_iinc4, j_iload5, j_aload5, j_istore5, j_astore5, j_iinc5, j_iload6, j_aload6, j_istore6, j_astore6, j_iinc6, j_iload7, j_aload7, j_istore7, j_astore7, j_iinc7, j_iload8, j_aload8, j_istore8, j_astore8, j_iinc8, j_iadd, j_isub, j_imul, j_iand, j_ior, j_ixor, j_ishl, j_ishr, j_iushr, j_idiv, j_irem, j_ineg, j_ladd, j_lmul, j_land, j_lor, j_lcmp, j_lushr, j_lshl, j_i2l, j_l2i, j_dupI, j_dupR, j_popI, j_dup2, j_ifeq, j_iceq, j_ifne, j_icne, j_iflt, j_iclt, j_ifge, j_icge, j_ifgt, j_icgt, j_ifle, j_icle, j_goto, j_tsw, j_sw0, j_sw1, j_ireturn, j_zreturn, j_lreturn, j_return, j_getfield, j_putI, j_putJ, j_putR, j_iaload, j_baload, j_iastore, j_bastore, j_aaload, j_q, j_aastore, j_acopy, j_mmin, j_mmax, j_mabs, j_objinit, j_new, j_newI, j_newQ, j_sld, j_slen, j_callV0, j_callI0, j_callS0, j_callV1, j_callI1, j_callS1, j_callV2, j_callI2, j_callS2, j_callV3, j_callS3, j_callV4, j_callS4, j_callV5, j_callS5, j_pushS, j_pushN, j_sh0, j_sh1, j_sh2, j_sh3, j_sh4, Int32.reduceAdd, Int32.reduceMul, Int32.reduceSub, Int32.reduceLT, Int32.reduceLE, eq_self, i32_10, i32_01, ne_eq, hrow_s, hrow_n, ne10, ne100, ne1000, ne7, ne4, ne14, ne9973, or_true, true_or, or_false, false_or, not_true_eq_false, not_false_eq_true, false_implies, implies_true, and_true, forall_const, true_implies, jargs_n, jargs_r, jargs_i, List.cons_append, List.nil_append, true_and, Nat.reduceEqDiff, reduceIte, ft_X6_signOfRow_0, ft_X6_signOfRow_1, ft_X6_signOfRow_2, ft_X6_signOfRow_3, ft_X6_signOfRow_6, ft_X6_signOfRow_7, ft_X6_signOfRow_9, ft_X6_signOfRow_10, ft_X6_signOfRow_12, ft_X6_signOfRow_14, ft_X6_signOfRow_15, ft_X6_signOfRow_18, ft_X6_signOfRow_20, ft_X6_signOfRow_22, ft_X6_signOfRow_25, ft_X6_signOfRow_26, ft_X6_signOfRow_29, ft_X6_signOfRow_31, ft_X6_signOfRow_32, ft_X6_signOfRow_35, ft_X6_signOfRow_37, ft_X6_signOfRow_38, ft_X6_signOfRow_39, ft_X6_signOfRow_42, ft_X6_signOfRow_44, ft_X6_signOfRow_45, ft_X6_signOfRow_48, ft_X6_signOfRow_50, ft_X6_signOfRow_53, ft_X6_signOfRow_56, ft_X6_signOfRow_58]
  exact lp_X6_signOfRow hn hQ n 0 (by omega)
theorem s_X6_signOfRow {nb r n : Nat} {C : Nat → Nat → Int32} {z : Nat → Int64} {p : Int32} {Q : jQ} (hr : r < 2 ^ 31) (hn : n ≤ 9) (hQ : Q (some (.int (sgnF p r n n))) (memS 94 (hrow C 64 (sprd C r n 0)) z)) : S_X6_signOfRow nb [.ref 0, .int p, .int (nI n), .int (nI r)] (memS 94 C z) Q := ⟨C, z, r, n, p, rfl, rfl, hr, hn, hQ⟩
/-! signed -/
theorem powF_10 : ∀ k, k < 10 → powF 10 k = nI (10 ^ k) := by decide +kernel
theorem powF_1000 : ∀ k, k < 4 → powF 1000 k = nI (1000 ^ k) := by decide +kernel
theorem pow10_lt : ∀ k, k < 10 → 10 ^ k < 2 ^ 31 := by decide +kernel
/-- what signed answers -/
noncomputable def signedA (C : Nat → Nat → Int32) (p n row : Int32) : Int32 := pick (okPost C p) (pick ((1 ≤ n ∧ n ≤ 6) ∧ 0 ≤ row ∧ row < powF 10 n.toNatClampNeg) (sgnF p row.toNatClampNeg n.toNatClampNeg n.toNatClampNeg) (-2)) (-1)
def S_X6_signed : jSp := fun _ vs mem Q => ∃ C z, ∃ p n row : Int32, vs = [.ref 0, .int p, .int n, .int row] ∧ mem = memS 94 C z ∧ Cut (C 12) ∧ ∀ C', Hv C C' → Q (some (.int (signedA C p n row))) (memS 94 C' z)
def F_X6_signed_0 : Nat → jT := fun pc => (bif Nat.blt pc 13 then (bif Nat.blt pc 5 then (bif Nat.blt pc 1 then (bif Nat.beq pc 0 then J_aload 0 1 else jbad) else (bif Nat.blt pc 4 then (bif Nat.beq pc 1 then J_getfield 6 1 4 else jbad) else (bif Nat.beq pc 4 then J_iload 1 5 else jbad))) else (bif Nat.blt pc 11 then (bif Nat.blt pc 8 then (bif Nat.beq pc 5 then J_callV 3 S_X3_hasPost 1 8 else jbad) else (bif Nat.beq pc 8 then J_ifne 13 11 else jbad)) else (bif Nat.blt pc 12 then (bif Nat.beq pc 11 then J_iconst (-1) 12 else jbad) else (bif Nat.beq pc 12 then J_ireturn 0 0 else jbad)))) else (bif Nat.blt pc 18 then (bif Nat.blt pc 14 then (bif Nat.beq pc 13 then J_iload 2 14 else jbad) else (bif Nat.blt pc 15 then (bif Nat.beq pc 14 then J_iconst 1 15 else jbad) else (bif Nat.beq pc 15 then J_iclt 38 18 else jbad))) else (bif Nat.blt pc 21 then (bif Nat.blt pc 19 then (bif Nat.beq pc 18 then J_iload 2 19 else jbad) else (bif Nat.beq pc 19 then J_iconst 6 21 else jbad)) else (bif Nat.blt pc 24 then (bif Nat.beq pc 21 then J_icgt 38 24 else jbad) else (bif Nat.beq pc 24 then J_iload 3 25 else jbad)))))
theorem ftl_X6_signed_0 : F_X6_signed_0 0 = J_aload 0 1 := rfl
theorem ftl_X6_signed_1 : F_X6_signed_0 1 = J_getfield 6 1 4 := rfl
theorem ftl_X6_signed_4 : F_X6_signed_0 4 = J_iload 1 5 := rfl
theorem ftl_X6_signed_5 : F_X6_signed_0 5 = J_callV 3 S_X3_hasPost 1 8 := rfl
theorem ftl_X6_signed_8 : F_X6_signed_0 8 = J_ifne 13 11 := rfl
theorem ftl_X6_signed_11 : F_X6_signed_0 11 = J_iconst (-1) 12 := rfl
theorem ftl_X6_signed_12 : F_X6_signed_0 12 = J_ireturn 0 0 := rfl
theorem ftl_X6_signed_13 : F_X6_signed_0 13 = J_iload 2 14 := rfl
theorem ftl_X6_signed_14 : F_X6_signed_0 14 = J_iconst 1 15 := rfl
theorem ftl_X6_signed_15 : F_X6_signed_0 15 = J_iclt 38 18 := rfl
theorem ftl_X6_signed_18 : F_X6_signed_0 18 = J_iload 2 19 := rfl
theorem ftl_X6_signed_19 : F_X6_signed_0 19 = J_iconst 6 21 := rfl
theorem ftl_X6_signed_21 : F_X6_signed_0 21 = J_icgt 38 24 := rfl
theorem ftl_X6_signed_24 : F_X6_signed_0 24 = J_iload 3 25 := rfl
theorem F_X6_signed_0_ok : jOK Y_X6_signed none (F_X6_signed_0) := (jOK_node (jOK_node (jOK_node (jOK_leaf (sn_aload_n dX6_signed_0 rfl rfl)) (jOK_node (jOK_leaf (sn_getfield dX6_signed_1 rfl rfl (by decide) tw_167 jin6)) (jOK_leaf (sn_iload_n dX6_signed_4 rfl rfl)))) (jOK_node (jOK_node (jOK_leaf (sn_callV (Y' := Y_X3_hasPost) ok_X3_hasPost dX6_signed_5 rfl rfl rfl tw_286 tw_287 tw_288 tw_3 jc_X3_hasPost rfl ⟨by decide, by decide, rfl⟩ ⟨by decide, by decide⟩)) (jOK_leaf (sn_ifne dX6_signed_8 rfl rfl))) (jOK_node (jOK_leaf (sn_iconst dX6_signed_11 rfl rfl)) (jOK_leaf (sn_ireturn dX6_signed_12 rfl rfl))))) (jOK_node (jOK_node (jOK_leaf (sn_iload_n dX6_signed_13 rfl rfl)) (jOK_node (jOK_leaf (sn_iconst dX6_signed_14 rfl rfl)) (jOK_leaf (sn_iclt dX6_signed_15 rfl rfl)))) (jOK_node (jOK_node (jOK_leaf (sn_iload_n dX6_signed_18 rfl rfl)) (jOK_leaf (sn_bipush dX6_signed_19 rfl rfl))) (jOK_node (jOK_leaf (sn_icgt dX6_signed_21 rfl rfl)) (jOK_leaf (sn_iload_n dX6_signed_24 rfl rfl))))))
def F_X6_signed_25 : Nat → jT := fun pc => (bif Nat.blt pc 40 then (bif Nat.blt pc 31 then (bif Nat.blt pc 28 then (bif Nat.beq pc 25 then J_iflt 38 28 else jbad) else (bif Nat.blt pc 29 then (bif Nat.beq pc 28 then J_iload 3 29 else jbad) else (bif Nat.beq pc 29 then J_iconst 10 31 else jbad))) else (bif Nat.blt pc 35 then (bif Nat.blt pc 32 then (bif Nat.beq pc 31 then J_iload 2 32 else jbad) else (bif Nat.beq pc 32 then J_callS S_X6_power 2 35 else jbad)) else (bif Nat.blt pc 38 then (bif Nat.beq pc 35 then J_iclt 41 38 else jbad) else (bif Nat.beq pc 38 then J_iconst (-2) 40 else jbad)))) else (bif Nat.blt pc 43 then (bif Nat.blt pc 41 then (bif Nat.beq pc 40 then J_ireturn 0 0 else jbad) else (bif Nat.blt pc 42 then (bif Nat.beq pc 41 then J_aload 0 42 else jbad) else (bif Nat.beq pc 42 then J_iload 1 43 else jbad))) else (bif Nat.blt pc 45 then (bif Nat.blt pc 44 then (bif Nat.beq pc 43 then J_iload 2 44 else jbad) else (bif Nat.beq pc 44 then J_iload 3 45 else jbad)) else (bif Nat.blt pc 48 then (bif Nat.beq pc 45 then J_callV 6 S_X6_signOfRow 3 48 else jbad) else (bif Nat.beq pc 48 then J_ireturn 0 0 else jbad)))))
theorem ftl_X6_signed_25 : F_X6_signed_25 25 = J_iflt 38 28 := rfl
theorem ftl_X6_signed_28 : F_X6_signed_25 28 = J_iload 3 29 := rfl
theorem ftl_X6_signed_29 : F_X6_signed_25 29 = J_iconst 10 31 := rfl
theorem ftl_X6_signed_31 : F_X6_signed_25 31 = J_iload 2 32 := rfl
theorem ftl_X6_signed_32 : F_X6_signed_25 32 = J_callS S_X6_power 2 35 := rfl
theorem ftl_X6_signed_35 : F_X6_signed_25 35 = J_iclt 41 38 := rfl
theorem ftl_X6_signed_38 : F_X6_signed_25 38 = J_iconst (-2) 40 := rfl
theorem ftl_X6_signed_40 : F_X6_signed_25 40 = J_ireturn 0 0 := rfl
theorem ftl_X6_signed_41 : F_X6_signed_25 41 = J_aload 0 42 := rfl
theorem ftl_X6_signed_42 : F_X6_signed_25 42 = J_iload 1 43 := rfl
theorem ftl_X6_signed_43 : F_X6_signed_25 43 = J_iload 2 44 := rfl
theorem ftl_X6_signed_44 : F_X6_signed_25 44 = J_iload 3 45 := rfl
theorem ftl_X6_signed_45 : F_X6_signed_25 45 = J_callV 6 S_X6_signOfRow 3 48 := rfl
theorem ftl_X6_signed_48 : F_X6_signed_25 48 = J_ireturn 0 0 := rfl
theorem F_X6_signed_25_ok : jOK Y_X6_signed none (F_X6_signed_25) := (jOK_node (jOK_node (jOK_node (jOK_leaf (sn_iflt dX6_signed_25 rfl rfl)) (jOK_node (jOK_leaf (sn_iload_n dX6_signed_28 rfl rfl)) (jOK_leaf (sn_bipush dX6_signed_29 rfl rfl)))) (jOK_node (jOK_node (jOK_leaf (sn_iload_n dX6_signed_31 rfl rfl)) (jOK_leaf (sn_callS (Y' := Y_X6_power) ok_X6_power dX6_signed_32 rfl rfl tw_505 tw_506 tw_1 jc_X6_power ⟨by decide, by decide, rfl⟩ ⟨by decide, by decide⟩))) (jOK_node (jOK_leaf (sn_iclt dX6_signed_35 rfl rfl)) (jOK_leaf (sn_bipush dX6_signed_38 rfl rfl))))) (jOK_node (jOK_node (jOK_leaf (sn_ireturn dX6_signed_40 rfl rfl)) (jOK_node (jOK_leaf (sn_aload_n dX6_signed_41 rfl rfl)) (jOK_leaf (sn_iload_n dX6_signed_42 rfl rfl)))) (jOK_node (jOK_node (jOK_leaf (sn_iload_n dX6_signed_43 rfl rfl)) (jOK_leaf (sn_iload_n dX6_signed_44 rfl rfl))) (jOK_node (jOK_leaf (sn_callV (Y' := Y_X6_signOfRow) ok_X6_signOfRow dX6_signed_45 rfl rfl rfl tw_508 tw_510 tp_19 tw_1 jc_X6_signOfRow rfl ⟨by decide, by decide, rfl⟩ ⟨by decide, by decide⟩)) (jOK_leaf (sn_ireturn dX6_signed_48 rfl rfl))))))
def F_X6_signed_0_48 : Nat → jT := fun pc => bif Nat.blt pc 25 then F_X6_signed_0 pc else F_X6_signed_25 pc
theorem F_X6_signed_0_48_ok : jOK Y_X6_signed none (F_X6_signed_0_48) := jOK_node (F_X6_signed_0_ok) (F_X6_signed_25_ok)
def F_X6_signed : Nat → jT := F_X6_signed_0_48
theorem OK_X6_signed : jOK Y_X6_signed none (F_X6_signed) := F_X6_signed_0_48_ok
theorem ft_X6_signed_0 : F_X6_signed 0 = J_aload 0 1 := ftl_X6_signed_0
theorem ft_X6_signed_1 : F_X6_signed 1 = J_getfield 6 1 4 := ftl_X6_signed_1
theorem ft_X6_signed_4 : F_X6_signed 4 = J_iload 1 5 := ftl_X6_signed_4
theorem ft_X6_signed_5 : F_X6_signed 5 = J_callV 3 S_X3_hasPost 1 8 := ftl_X6_signed_5
theorem ft_X6_signed_8 : F_X6_signed 8 = J_ifne 13 11 := ftl_X6_signed_8
theorem ft_X6_signed_11 : F_X6_signed 11 = J_iconst (-1) 12 := ftl_X6_signed_11
theorem ft_X6_signed_12 : F_X6_signed 12 = J_ireturn 0 0 := ftl_X6_signed_12
theorem ft_X6_signed_13 : F_X6_signed 13 = J_iload 2 14 := ftl_X6_signed_13
theorem ft_X6_signed_14 : F_X6_signed 14 = J_iconst 1 15 := ftl_X6_signed_14
theorem ft_X6_signed_15 : F_X6_signed 15 = J_iclt 38 18 := ftl_X6_signed_15
theorem ft_X6_signed_18 : F_X6_signed 18 = J_iload 2 19 := ftl_X6_signed_18
theorem ft_X6_signed_19 : F_X6_signed 19 = J_iconst 6 21 := ftl_X6_signed_19
theorem ft_X6_signed_21 : F_X6_signed 21 = J_icgt 38 24 := ftl_X6_signed_21
theorem ft_X6_signed_24 : F_X6_signed 24 = J_iload 3 25 := ftl_X6_signed_24
theorem ft_X6_signed_25 : F_X6_signed 25 = J_iflt 38 28 := ftl_X6_signed_25
theorem ft_X6_signed_28 : F_X6_signed 28 = J_iload 3 29 := ftl_X6_signed_28
theorem ft_X6_signed_29 : F_X6_signed 29 = J_iconst 10 31 := ftl_X6_signed_29
theorem ft_X6_signed_31 : F_X6_signed 31 = J_iload 2 32 := ftl_X6_signed_31
theorem ft_X6_signed_32 : F_X6_signed 32 = J_callS S_X6_power 2 35 := ftl_X6_signed_32
theorem ft_X6_signed_35 : F_X6_signed 35 = J_iclt 41 38 := ftl_X6_signed_35
theorem ft_X6_signed_38 : F_X6_signed 38 = J_iconst (-2) 40 := ftl_X6_signed_38
theorem ft_X6_signed_40 : F_X6_signed 40 = J_ireturn 0 0 := ftl_X6_signed_40
theorem ft_X6_signed_41 : F_X6_signed 41 = J_aload 0 42 := ftl_X6_signed_41
theorem ft_X6_signed_42 : F_X6_signed 42 = J_iload 1 43 := ftl_X6_signed_42
theorem ft_X6_signed_43 : F_X6_signed 43 = J_iload 2 44 := ftl_X6_signed_43
theorem ft_X6_signed_44 : F_X6_signed 44 = J_iload 3 45 := ftl_X6_signed_44
theorem ft_X6_signed_45 : F_X6_signed 45 = J_callV 6 S_X6_signOfRow 3 48 := ftl_X6_signed_45
theorem ft_X6_signed_48 : F_X6_signed 48 = J_ireturn 0 0 := ftl_X6_signed_48
theorem ok_X6_signed : jMeets Y_X6_signed S_X6_signed := by
  intro nb vs mem Q h
  obtain ⟨C, z, p, n, row, rfl, rfl, hcut, hQ⟩ := h
  have hrf : Hv C C := Hv.rf hcut
  refine Ok.run OK_X6_signed [] 60 [] pn6 (Nat.le_of_ble_eq_true rfl) rfl ?_
  simp -implicitDefEqProofs only [jr_0, jr_1, jr_2, j_iconst, j_lconst, j_iload0, j_aload0, j_istore0, j_astore0, j_iinc0, j_iload1, j_aload1, j_istore1, j_astore1, j_iinc1, j_iload2, j_aload2, j_istore2, j_astore2, j_iinc2, j_iload3, j_aload3, j_istore3, j_astore3, j_iinc3, j_iload4, j_aload4, j_istore4, j_astore4, j_iinc4, j_iload5, j_aload5, j_istore5, j_astore5, j_iinc5, j_iload6, j_aload6, j_istore6, j_astore6, j_iinc6, j_iload7, j_aload7, j_istore7, j_astore7, j_iinc7, j_iload8, j_aload8, j_istore8, j_astore8, j_iinc8, j_iadd, j_isub, j_imul, j_iand, j_ior, j_ixor, j_ishl, j_ishr, j_iushr, j_idiv, j_irem, j_ineg, j_ladd, j_lmul, j_land, j_lor, j_lcmp, j_lushr, j_lshl, j_i2l, j_l2i, j_dupI, j_dupR, j_popI, j_dup2, j_ifeq, j_iceq, j_ifne, j_icne, j_iflt, j_iclt, j_ifge, j_icge, j_ifgt, j_icgt, j_ifle, j_icle, j_goto, j_tsw, j_sw0, j_sw1, j_ireturn, j_zreturn, j_lreturn, j_return, j_getfield, j_putI, j_putJ, j_putR, j_iaload, j_baload, j_iastore, j_bastore, j_aaload, j_q, j_aastore, j_acopy, j_mmin, j_mmax, j_mabs, j_objinit, j_new, j_newI, j_newQ, j_sld, j_slen, j_callV0, j_callI0, j_callS0, j_callV1, j_callI1, j_callS1, j_callV2, j_callI2, j_callS2, j_callV3, j_callS3, j_callV4, j_callS4, j_callV5, j_callS5, j_pushS, j_pushN, j_sh0, j_sh1, j_sh2, j_sh3, j_sh4, Int32.reduceAdd, Int32.reduceMul, Int32.reduceSub, Int32.reduceLT, Int32.reduceLE, eq_self, i32_10, i32_01, ne_eq, hrow_s, hrow_n, ne10, ne100, ne1000, ne7, ne4, ne14, ne9973, or_true, true_or, or_false, false_or, not_true_eq_false, not_false_eq_true, false_implies, implies_true, and_true, forall_const, true_implies, jargs_n, jargs_r, jargs_i, List.cons_append, List.nil_append, true_and, Nat.reduceEqDiff, reduceIte, ft_X6_signed_0, ft_X6_signed_1, ft_X6_signed_4, ft_X6_signed_5, ft_X6_signed_8, ft_X6_signed_11, ft_X6_signed_12, ft_X6_signed_13, ft_X6_signed_14, ft_X6_signed_15, ft_X6_signed_18, ft_X6_signed_19, ft_X6_signed_21, ft_X6_signed_24, ft_X6_signed_25, ft_X6_signed_28, ft_X6_signed_29, ft_X6_signed_31, ft_X6_signed_32, ft_X6_signed_35, ft_X6_signed_38, ft_X6_signed_40, ft_X6_signed_41, ft_X6_signed_42, ft_X6_signed_43, ft_X6_signed_44, ft_X6_signed_45, ft_X6_signed_48, rc_0, rc_3, fl_0_1, s_okPost jD94, zb_0, s_X6_power]
  unfold signedA at hQ
  by_cases h1 : okPost C p
  · simp only [pick_t h1] at hQ
    simp only [h1, not_true_eq_false, not_false_eq_true, true_implies, false_implies, implies_true, and_true, true_and, forall_const]
    by_cases h2 : (1 ≤ n ∧ n ≤ 6) ∧ 0 ≤ row ∧ row < powF 10 n.toNatClampNeg
    · simp only [pick_t h2] at hQ
      obtain ⟨⟨ha, hb⟩, hc, hd⟩ := h2
      simp only [Int32.not_lt.mpr ha, Int32.not_lt.mpr hb, Int32.not_lt.mpr hc, hd, not_true_eq_false, not_false_eq_true, true_implies, false_implies, implies_true, and_true, true_and, forall_const]
      obtain ⟨m, hm1, hm6, rfl⟩ := i32_btw (a := 1) (b := 6) (by decide) (by decide) ha hb
      obtain ⟨r, hr, rfl⟩ := nI_of (x := row) (Int32.not_lt.mpr hc)
      rw [nI_clamp (show m < 2 ^ 31 by omega), nI_clamp hr] at hQ
      refine s_X6_signOfRow hr (by omega) ?_
      simp -implicitDefEqProofs only [jr_0, jr_1, jr_2, j_iconst, j_lconst, j_iload0, j_aload0, j_istore0, j_astore0, j_iinc0, j_iload1, j_aload1, j_istore1, j_astore1, j_iinc1, j_iload2, j_aload2, j_istore2, j_astore2, j_iinc2, j_iload3, j_aload3, j_istore3, j_astore3, j_iinc3, j_iload4, j_aload4, j_istore4, j_astore4, j_iinc4, j_iload5, j_aload5, j_istore5, j_astore5, j_iinc5, j_iload6, j_aload6, j_istore6, j_astore6, j_iinc6, j_iload7, j_aload7, j_istore7, j_astore7, j_iinc7, j_iload8, j_aload8, j_istore8, j_astore8, j_iinc8, j_iadd, j_isub, j_imul, j_iand, j_ior, j_ixor, j_ishl, j_ishr, j_iushr, j_idiv, j_irem, j_ineg, j_ladd, j_lmul, j_land, j_lor, j_lcmp, j_lushr, j_lshl, j_i2l, j_l2i, j_dupI, j_dupR, j_popI, j_dup2, j_ifeq, j_iceq, j_ifne, j_icne, j_iflt, j_iclt, j_ifge, j_icge, j_ifgt, j_icgt, j_ifle, j_icle, j_goto, j_tsw, j_sw0, j_sw1, j_ireturn, j_zreturn, j_lreturn, j_return, j_getfield, j_putI, j_putJ, j_putR, j_iaload, j_baload, j_iastore, j_bastore, j_aaload, j_q, j_aastore, j_acopy, j_mmin, j_mmax, j_mabs, j_objinit, j_new, j_newI, j_newQ, j_sld, j_slen, j_callV0, j_callI0, j_callS0, j_callV1, j_callI1, j_callS1, j_callV2, j_callI2, j_callS2, j_callV3, j_callS3, j_callV4, j_callS4, j_callV5, j_callS5, j_pushS, j_pushN, j_sh0, j_sh1, j_sh2, j_sh3, j_sh4, Int32.reduceAdd, Int32.reduceMul, Int32.reduceSub, Int32.reduceLT, Int32.reduceLE, eq_self, i32_10, i32_01, ne_eq, hrow_s, hrow_n, ne10, ne100, ne1000, ne7, ne4, ne14, ne9973, or_true, true_or, or_false, false_or, not_true_eq_false, not_false_eq_true, false_implies, implies_true, and_true, forall_const, true_implies, jargs_n, jargs_r, jargs_i, List.cons_append, List.nil_append, true_and, Nat.reduceEqDiff, reduceIte, ft_X6_signed_0, ft_X6_signed_1, ft_X6_signed_4, ft_X6_signed_5, ft_X6_signed_8, ft_X6_signed_11, ft_X6_signed_12, ft_X6_signed_13, ft_X6_signed_14, ft_X6_signed_15, ft_X6_signed_18, ft_X6_signed_19, ft_X6_signed_21, ft_X6_signed_24, ft_X6_signed_25, ft_X6_signed_28, ft_X6_signed_29, ft_X6_signed_31, ft_X6_signed_32, ft_X6_signed_35, ft_X6_signed_38, ft_X6_signed_40, ft_X6_signed_41, ft_X6_signed_42, ft_X6_signed_43, ft_X6_signed_44, ft_X6_signed_45, ft_X6_signed_48]
      exact hQ _ hrf.h64
    · simp only [pick_f h2] at hQ
      have hq := hQ C hrf
      by_cases a1 : n < 1
      · simp only [a1, not_true_eq_false, not_false_eq_true, true_implies, false_implies, implies_true, and_true, true_and, forall_const]; exact hq
      · by_cases a2 : ¬ 6 < n
        · by_cases a3 : row < 0
          · simp only [a1, a2, a3, not_true_eq_false, not_false_eq_true, true_implies, false_implies, implies_true, and_true, true_and, forall_const]; exact hq
          · by_cases a4 : ¬ row < powF 10 n.toNatClampNeg
            · simp only [a1, a2, a3, a4, not_true_eq_false, not_false_eq_true, true_implies, false_implies, implies_true, and_true, true_and, forall_const]; exact hq
            · exact absurd ⟨⟨Int32.not_lt.mp a1, Int32.not_lt.mp a2⟩, Int32.not_lt.mp a3, Classical.not_not.mp a4⟩ h2
        · have a2' := Classical.not_not.mp a2; simp only [a1, a2', not_true_eq_false, not_false_eq_true, true_implies, false_implies, implies_true, and_true, true_and, forall_const]; exact hq
  · simp only [pick_f h1] at hQ
    simp only [h1, not_true_eq_false, not_false_eq_true, true_implies, false_implies, implies_true, and_true, true_and, forall_const]
    exact hQ C hrf
theorem s_X6_signed {nb : Nat} {C : Nat → Nat → Int32} {z : Nat → Int64} {p n row : Int32} {Q : jQ} (hc : Cut (C 12)) (hQ : ∀ C', Hv C C' → Q (some (.int (signedA C p n row))) (memS 94 C' z)) : S_X6_signed nb [.ref 0, .int p, .int n, .int row] (memS 94 C z) Q := ⟨C, z, p, n, row, rfl, rfl, hc, hQ⟩
/-! forged -/
def frgF (p s : Int32) (n : Nat) : Nat → Nat → Int32
  | 0, _ => -9
  | k + 1, r => if sgnF p r n n = s then nI r else frgF p s n k (r + 1)
noncomputable def forgedA (C : Nat → Nat → Int32) (p n s : Int32) : Int32 := pick (okPost C p) (pick ((1 ≤ n ∧ n ≤ 3) ∧ 0 ≤ s ∧ s < 9973) (frgF p s n.toNatClampNeg (10 ^ n.toNatClampNeg) 0) (-2)) (-1)
def S_X6_forged : jSp := fun _ vs mem Q => ∃ C z, ∃ p n s : Int32, vs = [.ref 0, .int p, .int n, .int s] ∧ mem = memS 94 C z ∧ Cut (C 12) ∧ ∀ C', Hv C C' → Q (some (.int (forgedA C p n s))) (memS 94 C' z)
def F_X6_forged_0 : Nat → jT := fun pc => (bif Nat.blt pc 11 then (bif Nat.blt pc 4 then (bif Nat.blt pc 1 then (bif Nat.beq pc 0 then J_aload 0 1 else jbad) else (bif Nat.beq pc 1 then J_getfield 6 1 4 else jbad)) else (bif Nat.blt pc 5 then (bif Nat.beq pc 4 then J_iload 1 5 else jbad) else (bif Nat.blt pc 8 then (bif Nat.beq pc 5 then J_callV 3 S_X3_hasPost 1 8 else jbad) else (bif Nat.beq pc 8 then J_ifne 13 11 else jbad)))) else (bif Nat.blt pc 13 then (bif Nat.blt pc 12 then (bif Nat.beq pc 11 then J_iconst (-1) 12 else jbad) else (bif Nat.beq pc 12 then J_ireturn 0 0 else jbad)) else (bif Nat.blt pc 14 then (bif Nat.beq pc 13 then J_iload 2 14 else jbad) else (bif Nat.blt pc 15 then (bif Nat.beq pc 14 then J_iconst 1 15 else jbad) else (bif Nat.beq pc 15 then J_iclt 34 18 else jbad)))))
theorem ftl_X6_forged_0 : F_X6_forged_0 0 = J_aload 0 1 := rfl
theorem ftl_X6_forged_1 : F_X6_forged_0 1 = J_getfield 6 1 4 := rfl
theorem ftl_X6_forged_4 : F_X6_forged_0 4 = J_iload 1 5 := rfl
theorem ftl_X6_forged_5 : F_X6_forged_0 5 = J_callV 3 S_X3_hasPost 1 8 := rfl
theorem ftl_X6_forged_8 : F_X6_forged_0 8 = J_ifne 13 11 := rfl
theorem ftl_X6_forged_11 : F_X6_forged_0 11 = J_iconst (-1) 12 := rfl
theorem ftl_X6_forged_12 : F_X6_forged_0 12 = J_ireturn 0 0 := rfl
theorem ftl_X6_forged_13 : F_X6_forged_0 13 = J_iload 2 14 := rfl
theorem ftl_X6_forged_14 : F_X6_forged_0 14 = J_iconst 1 15 := rfl
theorem ftl_X6_forged_15 : F_X6_forged_0 15 = J_iclt 34 18 := rfl
theorem F_X6_forged_0_ok : jOK Y_X6_forged none (F_X6_forged_0) := (jOK_node (jOK_node (jOK_node (jOK_leaf (sn_aload_n dX6_forged_0 rfl rfl)) (jOK_leaf (sn_getfield dX6_forged_1 rfl rfl (by decide) tw_167 jin6))) (jOK_node (jOK_leaf (sn_iload_n dX6_forged_4 rfl rfl)) (jOK_node (jOK_leaf (sn_callV (Y' := Y_X3_hasPost) ok_X3_hasPost dX6_forged_5 rfl rfl rfl tw_286 tw_287 tw_288 tw_3 jc_X3_hasPost rfl ⟨by decide, by decide, rfl⟩ ⟨by decide, by decide⟩)) (jOK_leaf (sn_ifne dX6_forged_8 rfl rfl))))) (jOK_node (jOK_node (jOK_leaf (sn_iconst dX6_forged_11 rfl rfl)) (jOK_leaf (sn_ireturn dX6_forged_12 rfl rfl))) (jOK_node (jOK_leaf (sn_iload_n dX6_forged_13 rfl rfl)) (jOK_node (jOK_leaf (sn_iconst dX6_forged_14 rfl rfl)) (jOK_leaf (sn_iclt dX6_forged_15 rfl rfl))))))
def F_X6_forged_18 : Nat → jT := fun pc => (bif Nat.blt pc 27 then (bif Nat.blt pc 20 then (bif Nat.blt pc 19 then (bif Nat.beq pc 18 then J_iload 2 19 else jbad) else (bif Nat.beq pc 19 then J_iconst 3 20 else jbad)) else (bif Nat.blt pc 23 then (bif Nat.beq pc 20 then J_icgt 34 23 else jbad) else (bif Nat.blt pc 24 then (bif Nat.beq pc 23 then J_iload 3 24 else jbad) else (bif Nat.beq pc 24 then J_iflt 34 27 else jbad)))) else (bif Nat.blt pc 34 then (bif Nat.blt pc 28 then (bif Nat.beq pc 27 then J_iload 3 28 else jbad) else (bif Nat.blt pc 31 then (bif Nat.beq pc 28 then J_iconst 9973 31 else jbad) else (bif Nat.beq pc 31 then J_iclt 37 34 else jbad))) else (bif Nat.blt pc 36 then (bif Nat.beq pc 34 then J_iconst (-2) 36 else jbad) else (bif Nat.blt pc 37 then (bif Nat.beq pc 36 then J_ireturn 0 0 else jbad) else (bif Nat.beq pc 37 then J_iconst 10 39 else jbad)))))
theorem ftl_X6_forged_18 : F_X6_forged_18 18 = J_iload 2 19 := rfl
theorem ftl_X6_forged_19 : F_X6_forged_18 19 = J_iconst 3 20 := rfl
theorem ftl_X6_forged_20 : F_X6_forged_18 20 = J_icgt 34 23 := rfl
theorem ftl_X6_forged_23 : F_X6_forged_18 23 = J_iload 3 24 := rfl
theorem ftl_X6_forged_24 : F_X6_forged_18 24 = J_iflt 34 27 := rfl
theorem ftl_X6_forged_27 : F_X6_forged_18 27 = J_iload 3 28 := rfl
theorem ftl_X6_forged_28 : F_X6_forged_18 28 = J_iconst 9973 31 := rfl
theorem ftl_X6_forged_31 : F_X6_forged_18 31 = J_iclt 37 34 := rfl
theorem ftl_X6_forged_34 : F_X6_forged_18 34 = J_iconst (-2) 36 := rfl
theorem ftl_X6_forged_36 : F_X6_forged_18 36 = J_ireturn 0 0 := rfl
theorem ftl_X6_forged_37 : F_X6_forged_18 37 = J_iconst 10 39 := rfl
theorem F_X6_forged_18_ok : jOK Y_X6_forged none (F_X6_forged_18) := (jOK_node (jOK_node (jOK_node (jOK_leaf (sn_iload_n dX6_forged_18 rfl rfl)) (jOK_leaf (sn_iconst dX6_forged_19 rfl rfl))) (jOK_node (jOK_leaf (sn_icgt dX6_forged_20 rfl rfl)) (jOK_node (jOK_leaf (sn_iload_n dX6_forged_23 rfl rfl)) (jOK_leaf (sn_iflt dX6_forged_24 rfl rfl))))) (jOK_node (jOK_node (jOK_leaf (sn_iload_n dX6_forged_27 rfl rfl)) (jOK_node (jOK_leaf (sn_sipush dX6_forged_28 rfl rfl)) (jOK_leaf (sn_iclt dX6_forged_31 rfl rfl)))) (jOK_node (jOK_leaf (sn_bipush dX6_forged_34 rfl rfl)) (jOK_node (jOK_leaf (sn_ireturn dX6_forged_36 rfl rfl)) (jOK_leaf (sn_bipush dX6_forged_37 rfl rfl))))))
def F_X6_forged_0_37 : Nat → jT := fun pc => bif Nat.blt pc 18 then F_X6_forged_0 pc else F_X6_forged_18 pc
theorem F_X6_forged_0_37_ok : jOK Y_X6_forged none (F_X6_forged_0_37) := jOK_node (F_X6_forged_0_ok) (F_X6_forged_18_ok)
def F_X6_forged_39 : Nat → jT := fun pc => (bif Nat.blt pc 48 then (bif Nat.blt pc 43 then (bif Nat.blt pc 40 then (bif Nat.beq pc 39 then J_iload 2 40 else jbad) else (bif Nat.beq pc 40 then J_callS S_X6_power 2 43 else jbad)) else (bif Nat.blt pc 45 then (bif Nat.beq pc 43 then J_istore 4 45 else jbad) else (bif Nat.blt pc 46 then (bif Nat.beq pc 45 then J_iconst 0 46 else jbad) else (bif Nat.beq pc 46 then J_istore 5 48 else jbad)))) else (bif Nat.blt pc 52 then (bif Nat.blt pc 50 then (bif Nat.beq pc 48 then J_iload 5 50 else jbad) else (bif Nat.beq pc 50 then J_iload 4 52 else jbad)) else (bif Nat.blt pc 55 then (bif Nat.beq pc 52 then J_icge 76 55 else jbad) else (bif Nat.blt pc 56 then (bif Nat.beq pc 55 then J_aload 0 56 else jbad) else (bif Nat.beq pc 56 then J_iload 1 57 else jbad)))))
theorem ftl_X6_forged_39 : F_X6_forged_39 39 = J_iload 2 40 := rfl
theorem ftl_X6_forged_40 : F_X6_forged_39 40 = J_callS S_X6_power 2 43 := rfl
theorem ftl_X6_forged_43 : F_X6_forged_39 43 = J_istore 4 45 := rfl
theorem ftl_X6_forged_45 : F_X6_forged_39 45 = J_iconst 0 46 := rfl
theorem ftl_X6_forged_46 : F_X6_forged_39 46 = J_istore 5 48 := rfl
theorem ftl_X6_forged_48 : F_X6_forged_39 48 = J_iload 5 50 := rfl
theorem ftl_X6_forged_50 : F_X6_forged_39 50 = J_iload 4 52 := rfl
theorem ftl_X6_forged_52 : F_X6_forged_39 52 = J_icge 76 55 := rfl
theorem ftl_X6_forged_55 : F_X6_forged_39 55 = J_aload 0 56 := rfl
theorem ftl_X6_forged_56 : F_X6_forged_39 56 = J_iload 1 57 := rfl
theorem F_X6_forged_39_ok : jOK Y_X6_forged none (F_X6_forged_39) := (jOK_node (jOK_node (jOK_node (jOK_leaf (sn_iload_n dX6_forged_39 rfl rfl)) (jOK_leaf (sn_callS (Y' := Y_X6_power) ok_X6_power dX6_forged_40 rfl rfl tw_505 tw_506 tw_1 jc_X6_power ⟨by decide, by decide, rfl⟩ ⟨by decide, by decide⟩))) (jOK_node (jOK_leaf (sn_istore dX6_forged_43 rfl (by decide))) (jOK_node (jOK_leaf (sn_iconst dX6_forged_45 rfl rfl)) (jOK_leaf (sn_istore dX6_forged_46 rfl (by decide)))))) (jOK_node (jOK_node (jOK_leaf (sn_iload dX6_forged_48 rfl)) (jOK_leaf (sn_iload dX6_forged_50 rfl))) (jOK_node (jOK_leaf (sn_icge dX6_forged_52 rfl rfl)) (jOK_node (jOK_leaf (sn_aload_n dX6_forged_55 rfl rfl)) (jOK_leaf (sn_iload_n dX6_forged_56 rfl rfl))))))
def F_X6_forged_57 : Nat → jT := fun pc => (bif Nat.blt pc 67 then (bif Nat.blt pc 60 then (bif Nat.blt pc 58 then (bif Nat.beq pc 57 then J_iload 2 58 else jbad) else (bif Nat.beq pc 58 then J_iload 5 60 else jbad)) else (bif Nat.blt pc 63 then (bif Nat.beq pc 60 then J_callV 6 S_X6_signOfRow 3 63 else jbad) else (bif Nat.blt pc 64 then (bif Nat.beq pc 63 then J_iload 3 64 else jbad) else (bif Nat.beq pc 64 then J_icne 70 67 else jbad)))) else (bif Nat.blt pc 73 then (bif Nat.blt pc 69 then (bif Nat.beq pc 67 then J_iload 5 69 else jbad) else (bif Nat.blt pc 70 then (bif Nat.beq pc 69 then J_ireturn 0 0 else jbad) else (bif Nat.beq pc 70 then J_iinc 5 1 73 else jbad))) else (bif Nat.blt pc 76 then (bif Nat.beq pc 73 then J_goto 48 else jbad) else (bif Nat.blt pc 78 then (bif Nat.beq pc 76 then J_iconst (-9) 78 else jbad) else (bif Nat.beq pc 78 then J_ireturn 0 0 else jbad)))))
theorem ftl_X6_forged_57 : F_X6_forged_57 57 = J_iload 2 58 := rfl
theorem ftl_X6_forged_58 : F_X6_forged_57 58 = J_iload 5 60 := rfl
theorem ftl_X6_forged_60 : F_X6_forged_57 60 = J_callV 6 S_X6_signOfRow 3 63 := rfl
theorem ftl_X6_forged_63 : F_X6_forged_57 63 = J_iload 3 64 := rfl
theorem ftl_X6_forged_64 : F_X6_forged_57 64 = J_icne 70 67 := rfl
theorem ftl_X6_forged_67 : F_X6_forged_57 67 = J_iload 5 69 := rfl
theorem ftl_X6_forged_69 : F_X6_forged_57 69 = J_ireturn 0 0 := rfl
theorem ftl_X6_forged_70 : F_X6_forged_57 70 = J_iinc 5 1 73 := rfl
theorem ftl_X6_forged_73 : F_X6_forged_57 73 = J_goto 48 := rfl
theorem ftl_X6_forged_76 : F_X6_forged_57 76 = J_iconst (-9) 78 := rfl
theorem ftl_X6_forged_78 : F_X6_forged_57 78 = J_ireturn 0 0 := rfl
theorem F_X6_forged_57_ok : jOK Y_X6_forged none (F_X6_forged_57) := (jOK_node (jOK_node (jOK_node (jOK_leaf (sn_iload_n dX6_forged_57 rfl rfl)) (jOK_leaf (sn_iload dX6_forged_58 rfl))) (jOK_node (jOK_leaf (sn_callV (Y' := Y_X6_signOfRow) ok_X6_signOfRow dX6_forged_60 rfl rfl rfl tw_508 tw_510 tp_19 tw_1 jc_X6_signOfRow rfl ⟨by decide, by decide, rfl⟩ ⟨by decide, by decide⟩)) (jOK_node (jOK_leaf (sn_iload_n dX6_forged_63 rfl rfl)) (jOK_leaf (sn_icne dX6_forged_64 rfl rfl))))) (jOK_node (jOK_node (jOK_leaf (sn_iload dX6_forged_67 rfl)) (jOK_node (jOK_leaf (sn_ireturn dX6_forged_69 rfl rfl)) (jOK_leaf (sn_iinc dX6_forged_70 rfl rfl (by decide))))) (jOK_node (jOK_leaf (sn_goto dX6_forged_73 rfl)) (jOK_node (jOK_leaf (sn_bipush dX6_forged_76 rfl rfl)) (jOK_leaf (sn_ireturn dX6_forged_78 rfl rfl))))))
def F_X6_forged_39_78 : Nat → jT := fun pc => bif Nat.blt pc 57 then F_X6_forged_39 pc else F_X6_forged_57 pc
theorem F_X6_forged_39_78_ok : jOK Y_X6_forged none (F_X6_forged_39_78) := jOK_node (F_X6_forged_39_ok) (F_X6_forged_57_ok)
def F_X6_forged_0_78 : Nat → jT := fun pc => bif Nat.blt pc 39 then F_X6_forged_0_37 pc else F_X6_forged_39_78 pc
theorem F_X6_forged_0_78_ok : jOK Y_X6_forged none (F_X6_forged_0_78) := jOK_node (F_X6_forged_0_37_ok) (F_X6_forged_39_78_ok)
def F_X6_forged : Nat → jT := F_X6_forged_0_78
theorem OK_X6_forged : jOK Y_X6_forged none (F_X6_forged) := F_X6_forged_0_78_ok
theorem ft_X6_forged_0 : F_X6_forged 0 = J_aload 0 1 := ftl_X6_forged_0
theorem ft_X6_forged_1 : F_X6_forged 1 = J_getfield 6 1 4 := ftl_X6_forged_1
theorem ft_X6_forged_4 : F_X6_forged 4 = J_iload 1 5 := ftl_X6_forged_4
theorem ft_X6_forged_5 : F_X6_forged 5 = J_callV 3 S_X3_hasPost 1 8 := ftl_X6_forged_5
theorem ft_X6_forged_8 : F_X6_forged 8 = J_ifne 13 11 := ftl_X6_forged_8
theorem ft_X6_forged_11 : F_X6_forged 11 = J_iconst (-1) 12 := ftl_X6_forged_11
theorem ft_X6_forged_12 : F_X6_forged 12 = J_ireturn 0 0 := ftl_X6_forged_12
theorem ft_X6_forged_13 : F_X6_forged 13 = J_iload 2 14 := ftl_X6_forged_13
theorem ft_X6_forged_14 : F_X6_forged 14 = J_iconst 1 15 := ftl_X6_forged_14
theorem ft_X6_forged_15 : F_X6_forged 15 = J_iclt 34 18 := ftl_X6_forged_15
theorem ft_X6_forged_18 : F_X6_forged 18 = J_iload 2 19 := ftl_X6_forged_18
theorem ft_X6_forged_19 : F_X6_forged 19 = J_iconst 3 20 := ftl_X6_forged_19
theorem ft_X6_forged_20 : F_X6_forged 20 = J_icgt 34 23 := ftl_X6_forged_20
theorem ft_X6_forged_23 : F_X6_forged 23 = J_iload 3 24 := ftl_X6_forged_23
theorem ft_X6_forged_24 : F_X6_forged 24 = J_iflt 34 27 := ftl_X6_forged_24
theorem ft_X6_forged_27 : F_X6_forged 27 = J_iload 3 28 := ftl_X6_forged_27
theorem ft_X6_forged_28 : F_X6_forged 28 = J_iconst 9973 31 := ftl_X6_forged_28
theorem ft_X6_forged_31 : F_X6_forged 31 = J_iclt 37 34 := ftl_X6_forged_31
theorem ft_X6_forged_34 : F_X6_forged 34 = J_iconst (-2) 36 := ftl_X6_forged_34
theorem ft_X6_forged_36 : F_X6_forged 36 = J_ireturn 0 0 := ftl_X6_forged_36
theorem ft_X6_forged_37 : F_X6_forged 37 = J_iconst 10 39 := ftl_X6_forged_37
theorem ft_X6_forged_39 : F_X6_forged 39 = J_iload 2 40 := ftl_X6_forged_39
theorem ft_X6_forged_40 : F_X6_forged 40 = J_callS S_X6_power 2 43 := ftl_X6_forged_40
theorem ft_X6_forged_43 : F_X6_forged 43 = J_istore 4 45 := ftl_X6_forged_43
theorem ft_X6_forged_45 : F_X6_forged 45 = J_iconst 0 46 := ftl_X6_forged_45
theorem ft_X6_forged_46 : F_X6_forged 46 = J_istore 5 48 := ftl_X6_forged_46
theorem ft_X6_forged_48 : F_X6_forged 48 = J_iload 5 50 := ftl_X6_forged_48
theorem ft_X6_forged_50 : F_X6_forged 50 = J_iload 4 52 := ftl_X6_forged_50
theorem ft_X6_forged_52 : F_X6_forged 52 = J_icge 76 55 := ftl_X6_forged_52
theorem ft_X6_forged_55 : F_X6_forged 55 = J_aload 0 56 := ftl_X6_forged_55
theorem ft_X6_forged_56 : F_X6_forged 56 = J_iload 1 57 := ftl_X6_forged_56
theorem ft_X6_forged_57 : F_X6_forged 57 = J_iload 2 58 := ftl_X6_forged_57
theorem ft_X6_forged_58 : F_X6_forged 58 = J_iload 5 60 := ftl_X6_forged_58
theorem ft_X6_forged_60 : F_X6_forged 60 = J_callV 6 S_X6_signOfRow 3 63 := ftl_X6_forged_60
theorem ft_X6_forged_63 : F_X6_forged 63 = J_iload 3 64 := ftl_X6_forged_63
theorem ft_X6_forged_64 : F_X6_forged 64 = J_icne 70 67 := ftl_X6_forged_64
theorem ft_X6_forged_67 : F_X6_forged 67 = J_iload 5 69 := ftl_X6_forged_67
theorem ft_X6_forged_69 : F_X6_forged 69 = J_ireturn 0 0 := ftl_X6_forged_69
theorem ft_X6_forged_70 : F_X6_forged 70 = J_iinc 5 1 73 := ftl_X6_forged_70
theorem ft_X6_forged_73 : F_X6_forged 73 = J_goto 48 := ftl_X6_forged_73
theorem ft_X6_forged_76 : F_X6_forged 76 = J_iconst (-9) 78 := ftl_X6_forged_76
theorem ft_X6_forged_78 : F_X6_forged 78 = J_ireturn 0 0 := ftl_X6_forged_78
theorem lp_X6_forged {Q : jQ} {C : Nat → Nat → Int32} {z : Nat → Int64} {nb n : Nat} {p s : Int32} (hn : n ≤ 3) :
    ∀ k j, j + k = 10 ^ n → ∀ C1, Hv C C1 → (∀ C', Hv C C' → Q (some (.int (frgF p s n k j))) (memS 94 C' z)) → Rn Y_X6_forged none Q 48 [some (.ref 0), some (.int p), some (.int (nI n)), some (.int s), some (.int (nI (10 ^ n))), some (.int (nI j))] [] (memS 94 C1 z) (nb, 0, 0) := by
  have hp := pow10_lt n (by omega)
  intro k
  induction k with
  | zero =>
    intro j hj C1 hv h
    have hc : (nI (10 ^ n) ≤ nI j) = True := eq_true (nI_le (by omega) (by omega))
    refine jrun_first OK_X6_forged (C := [48]) 60 ?_
    simp -implicitDefEqProofs only [jr_0, jr_1, jr_2, j_iconst, j_lconst, j_iload0, j_aload0, j_istore0, j_astore0, j_iinc0, j_iload1, j_aload1, j_istore1, j_astore1, j_iinc1, j_iload2, j_aload2, j_istore2, j_astore2, j_iinc2, j_iload3, j_aload3, j_istore3, j_astore3, j_iinc3, j_iload4, j_aload4, j_istore4, j_astore4, j_iinc4, j_iload5, j_aload5, j_istore5, j_astore5, j_iinc5, j_iload6, j_aload6, j_istore6, j_astore6, j_iinc6, j_iload7, j_aload7, j_istore7, j_astore7, j_iinc7, j_iload8, j_aload8, j_istore8, j_astore8, j_iinc8, j_iadd, j_isub, j_imul, j_iand, j_ior, j_ixor, j_ishl, j_ishr, j_iushr, j_idiv, j_irem, j_ineg, j_ladd, j_lmul, j_land, j_lor, j_lcmp, j_lushr, j_lshl, j_i2l, j_l2i, j_dupI, j_dupR, j_popI, j_dup2, j_ifeq, j_iceq, j_ifne, j_icne, j_iflt, j_iclt, j_ifge, j_icge, j_ifgt, j_icgt, j_ifle, j_icle, j_goto, j_tsw, j_sw0, j_sw1, j_ireturn, j_zreturn, j_lreturn, j_return, j_getfield, j_putI, j_putJ, j_putR, j_iaload, j_baload, j_iastore, j_bastore, j_aaload, j_q, j_aastore, j_acopy, j_mmin, j_mmax, j_mabs, j_objinit, j_new, j_newI, j_newQ, j_sld, j_slen, j_callV0, j_callI0, j_callS0, j_callV1, j_callI1, j_callS1, j_callV2, j_callI2, j_callS2, j_callV3, j_callS3, j_callV4, j_callS4, j_callV5, j_callS5, j_pushS, j_pushN, j_sh0, j_sh1, j_sh2, j_sh3, j_sh4, Int32.reduceAdd, Int32.reduceMul, Int32.reduceSub, Int32.reduceLT, Int32.reduceLE, eq_self, i32_10, i32_01, ne_eq, hrow_s, hrow_n, ne10, ne100, ne1000, ne7, ne4, ne14, ne9973, or_true, true_or, or_false, false_or, not_true_eq_false, not_false_eq_true, false_implies, implies_true, and_true, forall_const, true_implies, jargs_n, jargs_r, jargs_i, List.cons_append, List.nil_append, true_and, Nat.reduceEqDiff, reduceIte, ft_X6_forged_0, ft_X6_forged_1, ft_X6_forged_4, ft_X6_forged_5, ft_X6_forged_8, ft_X6_forged_11, ft_X6_forged_12, ft_X6_forged_13, ft_X6_forged_14, ft_X6_forged_15, ft_X6_forged_18, ft_X6_forged_19, ft_X6_forged_20, ft_X6_forged_23, ft_X6_forged_24, ft_X6_forged_27, ft_X6_forged_28, ft_X6_forged_31, ft_X6_forged_34, ft_X6_forged_36, ft_X6_forged_37, ft_X6_forged_39, ft_X6_forged_40, ft_X6_forged_43, ft_X6_forged_45, ft_X6_forged_46, ft_X6_forged_48, ft_X6_forged_50, ft_X6_forged_52, ft_X6_forged_55, ft_X6_forged_56, ft_X6_forged_57, ft_X6_forged_58, ft_X6_forged_60, ft_X6_forged_63, ft_X6_forged_64, ft_X6_forged_67, ft_X6_forged_69, ft_X6_forged_70, ft_X6_forged_73, ft_X6_forged_76, ft_X6_forged_78, hc]
    exact h C1 hv
  | succ k ih =>
    intro j hj C1 hv h
    have hc : (nI (10 ^ n) ≤ nI j) = False := eq_false (nI_ge (by omega) (by omega))
    unfold frgF at h
    refine jrun_first OK_X6_forged (C := [48]) 60 ?_
    simp -implicitDefEqProofs only [jr_0, jr_1, jr_2, j_iconst, j_lconst, j_iload0, j_aload0, j_istore0, j_astore0, j_iinc0, j_iload1, j_aload1, j_istore1, j_astore1, j_iinc1, j_iload2, j_aload2, j_istore2, j_astore2, j_iinc2, j_iload3, j_aload3, j_istore3, j_astore3, j_iinc3, j_iload4, j_aload4, j_istore4, j_astore4, j_iinc4, j_iload5, j_aload5, j_istore5, j_astore5, j_iinc5, j_iload6, j_aload6, j_istore6, j_astore6, j_iinc6, j_iload7, j_aload7, j_istore7, j_astore7, j_iinc7, j_iload8, j_aload8, j_istore8, j_astore8, j_iinc8, j_iadd, j_isub, j_imul, j_iand, j_ior, j_ixor, j_ishl, j_ishr, j_iushr, j_idiv, j_irem, j_ineg, j_ladd, j_lmul, j_land, j_lor, j_lcmp, j_lushr, j_lshl, j_i2l, j_l2i, j_dupI, j_dupR, j_popI, j_dup2, j_ifeq, j_iceq, j_ifne, j_icne, j_iflt, j_iclt, j_ifge, j_icge, j_ifgt, j_icgt, j_ifle, j_icle, j_goto, j_tsw, j_sw0, j_sw1, j_ireturn, j_zreturn, j_lreturn, j_return, j_getfield, j_putI, j_putJ, j_putR, j_iaload, j_baload, j_iastore, j_bastore, j_aaload, j_q, j_aastore, j_acopy, j_mmin, j_mmax, j_mabs, j_objinit, j_new, j_newI, j_newQ, j_sld, j_slen, j_callV0, j_callI0, j_callS0, j_callV1, j_callI1, j_callS1, j_callV2, j_callI2, j_callS2, j_callV3, j_callS3, j_callV4, j_callS4, j_callV5, j_callS5, j_pushS, j_pushN, j_sh0, j_sh1, j_sh2, j_sh3, j_sh4, Int32.reduceAdd, Int32.reduceMul, Int32.reduceSub, Int32.reduceLT, Int32.reduceLE, eq_self, i32_10, i32_01, ne_eq, hrow_s, hrow_n, ne10, ne100, ne1000, ne7, ne4, ne14, ne9973, or_true, true_or, or_false, false_or, not_true_eq_false, not_false_eq_true, false_implies, implies_true, and_true, forall_const, true_implies, jargs_n, jargs_r, jargs_i, List.cons_append, List.nil_append, true_and, Nat.reduceEqDiff, reduceIte, ft_X6_forged_0, ft_X6_forged_1, ft_X6_forged_4, ft_X6_forged_5, ft_X6_forged_8, ft_X6_forged_11, ft_X6_forged_12, ft_X6_forged_13, ft_X6_forged_14, ft_X6_forged_15, ft_X6_forged_18, ft_X6_forged_19, ft_X6_forged_20, ft_X6_forged_23, ft_X6_forged_24, ft_X6_forged_27, ft_X6_forged_28, ft_X6_forged_31, ft_X6_forged_34, ft_X6_forged_36, ft_X6_forged_37, ft_X6_forged_39, ft_X6_forged_40, ft_X6_forged_43, ft_X6_forged_45, ft_X6_forged_46, ft_X6_forged_48, ft_X6_forged_50, ft_X6_forged_52, ft_X6_forged_55, ft_X6_forged_56, ft_X6_forged_57, ft_X6_forged_58, ft_X6_forged_60, ft_X6_forged_63, ft_X6_forged_64, ft_X6_forged_67, ft_X6_forged_69, ft_X6_forged_70, ft_X6_forged_73, ft_X6_forged_76, ft_X6_forged_78, hc, rc_0]
    refine s_X6_signOfRow (by omega) (by omega) ?_
    simp -implicitDefEqProofs only [jr_0, jr_1, jr_2, j_iconst, j_lconst, j_iload0, j_aload0, j_istore0, j_astore0, j_iinc0, j_iload1, j_aload1, j_istore1, j_astore1, j_iinc1, j_iload2, j_aload2, j_istore2, j_astore2, j_iinc2, j_iload3, j_aload3, j_istore3, j_astore3, j_iinc3, j_iload4, j_aload4, j_istore4, j_astore4, j_iinc4, j_iload5, j_aload5, j_istore5, j_astore5, j_iinc5, j_iload6, j_aload6, j_istore6, j_astore6, j_iinc6, j_iload7, j_aload7, j_istore7, j_astore7, j_iinc7, j_iload8, j_aload8, j_istore8, j_astore8, j_iinc8, j_iadd, j_isub, j_imul, j_iand, j_ior, j_ixor, j_ishl, j_ishr, j_iushr, j_idiv, j_irem, j_ineg, j_ladd, j_lmul, j_land, j_lor, j_lcmp, j_lushr, j_lshl, j_i2l, j_l2i, j_dupI, j_dupR, j_popI, j_dup2, j_ifeq, j_iceq, j_ifne, j_icne, j_iflt, j_iclt, j_ifge, j_icge, j_ifgt, j_icgt, j_ifle, j_icle, j_goto, j_tsw, j_sw0, j_sw1, j_ireturn, j_zreturn, j_lreturn, j_return, j_getfield, j_putI, j_putJ, j_putR, j_iaload, j_baload, j_iastore, j_bastore, j_aaload, j_q, j_aastore, j_acopy, j_mmin, j_mmax, j_mabs, j_objinit, j_new, j_newI, j_newQ, j_sld, j_slen, j_callV0, j_callI0, j_callS0, j_callV1, j_callI1, j_callS1, j_callV2, j_callI2, j_callS2, j_callV3, j_callS3, j_callV4, j_callS4, j_callV5, j_callS5, j_pushS, j_pushN, j_sh0, j_sh1, j_sh2, j_sh3, j_sh4, Int32.reduceAdd, Int32.reduceMul, Int32.reduceSub, Int32.reduceLT, Int32.reduceLE, eq_self, i32_10, i32_01, ne_eq, hrow_s, hrow_n, ne10, ne100, ne1000, ne7, ne4, ne14, ne9973, or_true, true_or, or_false, false_or, not_true_eq_false, not_false_eq_true, false_implies, implies_true, and_true, forall_const, true_implies, jargs_n, jargs_r, jargs_i, List.cons_append, List.nil_append, true_and, Nat.reduceEqDiff, reduceIte, ft_X6_forged_0, ft_X6_forged_1, ft_X6_forged_4, ft_X6_forged_5, ft_X6_forged_8, ft_X6_forged_11, ft_X6_forged_12, ft_X6_forged_13, ft_X6_forged_14, ft_X6_forged_15, ft_X6_forged_18, ft_X6_forged_19, ft_X6_forged_20, ft_X6_forged_23, ft_X6_forged_24, ft_X6_forged_27, ft_X6_forged_28, ft_X6_forged_31, ft_X6_forged_34, ft_X6_forged_36, ft_X6_forged_37, ft_X6_forged_39, ft_X6_forged_40, ft_X6_forged_43, ft_X6_forged_45, ft_X6_forged_46, ft_X6_forged_48, ft_X6_forged_50, ft_X6_forged_52, ft_X6_forged_55, ft_X6_forged_56, ft_X6_forged_57, ft_X6_forged_58, ft_X6_forged_60, ft_X6_forged_63, ft_X6_forged_64, ft_X6_forged_67, ft_X6_forged_69, ft_X6_forged_70, ft_X6_forged_73, ft_X6_forged_76, ft_X6_forged_78, nI_1]
    by_cases h0 : sgnF p j n n = s
    · simp only [if_pos h0] at h
      simp only [h0, not_true_eq_false, not_false_eq_true, true_implies, false_implies, implies_true, and_true, true_and, forall_const]
      exact h _ hv.h64
    · simp only [if_neg h0] at h
      simp only [h0, not_true_eq_false, not_false_eq_true, true_implies, false_implies, implies_true, and_true, true_and, forall_const]
      exact ih (j + 1) (by omega) _ hv.h64 h
theorem ok_X6_forged : jMeets Y_X6_forged S_X6_forged := by
  intro nb vs mem Q h
  obtain ⟨C, z, p, n, s, rfl, rfl, hcut, hQ⟩ := h
  have hrf : Hv C C := Hv.rf hcut
  refine Ok.run OK_X6_forged [48] 60 [none, none] pn6 (Nat.le_of_ble_eq_true rfl) rfl ?_
  simp -implicitDefEqProofs only [jr_0, jr_1, jr_2, j_iconst, j_lconst, j_iload0, j_aload0, j_istore0, j_astore0, j_iinc0, j_iload1, j_aload1, j_istore1, j_astore1, j_iinc1, j_iload2, j_aload2, j_istore2, j_astore2, j_iinc2, j_iload3, j_aload3, j_istore3, j_astore3, j_iinc3, j_iload4, j_aload4, j_istore4, j_astore4, j_iinc4, j_iload5, j_aload5, j_istore5, j_astore5, j_iinc5, j_iload6, j_aload6, j_istore6, j_astore6, j_iinc6, j_iload7, j_aload7, j_istore7, j_astore7, j_iinc7, j_iload8, j_aload8, j_istore8, j_astore8, j_iinc8, j_iadd, j_isub, j_imul, j_iand, j_ior, j_ixor, j_ishl, j_ishr, j_iushr, j_idiv, j_irem, j_ineg, j_ladd, j_lmul, j_land, j_lor, j_lcmp, j_lushr, j_lshl, j_i2l, j_l2i, j_dupI, j_dupR, j_popI, j_dup2, j_ifeq, j_iceq, j_ifne, j_icne, j_iflt, j_iclt, j_ifge, j_icge, j_ifgt, j_icgt, j_ifle, j_icle, j_goto, j_tsw, j_sw0, j_sw1, j_ireturn, j_zreturn, j_lreturn, j_return, j_getfield, j_putI, j_putJ, j_putR, j_iaload, j_baload, j_iastore, j_bastore, j_aaload, j_q, j_aastore, j_acopy, j_mmin, j_mmax, j_mabs, j_objinit, j_new, j_newI, j_newQ, j_sld, j_slen, j_callV0, j_callI0, j_callS0, j_callV1, j_callI1, j_callS1, j_callV2, j_callI2, j_callS2, j_callV3, j_callS3, j_callV4, j_callS4, j_callV5, j_callS5, j_pushS, j_pushN, j_sh0, j_sh1, j_sh2, j_sh3, j_sh4, Int32.reduceAdd, Int32.reduceMul, Int32.reduceSub, Int32.reduceLT, Int32.reduceLE, eq_self, i32_10, i32_01, ne_eq, hrow_s, hrow_n, ne10, ne100, ne1000, ne7, ne4, ne14, ne9973, or_true, true_or, or_false, false_or, not_true_eq_false, not_false_eq_true, false_implies, implies_true, and_true, forall_const, true_implies, jargs_n, jargs_r, jargs_i, List.cons_append, List.nil_append, true_and, Nat.reduceEqDiff, reduceIte, ft_X6_forged_0, ft_X6_forged_1, ft_X6_forged_4, ft_X6_forged_5, ft_X6_forged_8, ft_X6_forged_11, ft_X6_forged_12, ft_X6_forged_13, ft_X6_forged_14, ft_X6_forged_15, ft_X6_forged_18, ft_X6_forged_19, ft_X6_forged_20, ft_X6_forged_23, ft_X6_forged_24, ft_X6_forged_27, ft_X6_forged_28, ft_X6_forged_31, ft_X6_forged_34, ft_X6_forged_36, ft_X6_forged_37, ft_X6_forged_39, ft_X6_forged_40, ft_X6_forged_43, ft_X6_forged_45, ft_X6_forged_46, ft_X6_forged_48, ft_X6_forged_50, ft_X6_forged_52, ft_X6_forged_55, ft_X6_forged_56, ft_X6_forged_57, ft_X6_forged_58, ft_X6_forged_60, ft_X6_forged_63, ft_X6_forged_64, ft_X6_forged_67, ft_X6_forged_69, ft_X6_forged_70, ft_X6_forged_73, ft_X6_forged_76, ft_X6_forged_78, rc_0, rc_3, fl_0_1, s_okPost jD94, zb_0, s_X6_power]
  unfold forgedA at hQ
  by_cases h1 : okPost C p
  · simp only [pick_t h1] at hQ
    simp only [h1, not_true_eq_false, not_false_eq_true, true_implies, false_implies, implies_true, and_true, true_and, forall_const]
    by_cases h2 : (1 ≤ n ∧ n ≤ 3) ∧ 0 ≤ s ∧ s < 9973
    · simp only [pick_t h2] at hQ
      obtain ⟨⟨ha, hb⟩, hc, hd⟩ := h2
      simp only [Int32.not_lt.mpr ha, Int32.not_lt.mpr hb, Int32.not_lt.mpr hc, hd, not_true_eq_false, not_false_eq_true, true_implies, false_implies, implies_true, and_true, true_and, forall_const]
      obtain ⟨m, hm1, hm6, rfl⟩ := i32_btw (a := 1) (b := 3) (by decide) (by decide) ha hb
      rw [nI_clamp (by omega)] at hQ ⊢
      rw [powF_10 m (by omega)]
      exact lp_X6_forged (by omega) (10 ^ m) 0 (by omega) C hrf hQ
    · simp only [pick_f h2] at hQ
      have hq := hQ C hrf
      by_cases a1 : n < 1
      · simp only [a1, not_true_eq_false, not_false_eq_true, true_implies, false_implies, implies_true, and_true, true_and, forall_const]; exact hq
      · by_cases a2 : ¬ 3 < n
        · by_cases a3 : s < 0
          · simp only [a1, a2, a3, not_true_eq_false, not_false_eq_true, true_implies, false_implies, implies_true, and_true, true_and, forall_const]; exact hq
          · by_cases a4 : ¬ s < 9973
            · simp only [a1, a2, a3, a4, not_true_eq_false, not_false_eq_true, true_implies, false_implies, implies_true, and_true, true_and, forall_const]; exact hq
            · exact absurd ⟨⟨Int32.not_lt.mp a1, Int32.not_lt.mp a2⟩, Int32.not_lt.mp a3, Classical.not_not.mp a4⟩ h2
        · have a2' := Classical.not_not.mp a2; simp only [a1, a2', not_true_eq_false, not_false_eq_true, true_implies, false_implies, implies_true, and_true, true_and, forall_const]; exact hq
  · simp only [pick_f h1] at hQ
    simp only [h1, not_true_eq_false, not_false_eq_true, true_implies, false_implies, implies_true, and_true, true_and, forall_const]
    exact hQ C hrf
theorem s_X6_forged {nb : Nat} {C : Nat → Nat → Int32} {z : Nat → Int64} {p n s : Int32} {Q : jQ} (hc : Cut (C 12)) (hQ : ∀ C', Hv C C' → Q (some (.int (forgedA C p n s))) (memS 94 C' z)) : S_X6_forged nb [.ref 0, .int p, .int n, .int s] (memS 94 C z) Q := ⟨C, z, p, n, s, rfl, rfl, hc, hQ⟩
