/-! at the beginning nothing is -/
theorem CM_o {a : Nat} (h1 : a ≠ 71) (h2 : a ≠ 78) (h3 : a ≠ 9) (h4 : a ≠ 3) : CM a = zrow := by
  unfold CM C9 C3
  rw [hrow_n h2, hrow_n h1, hrow_n h3, hrow_n h4]
  rfl
theorem CM_3 : CM 3 = upd zrow 5 1 := by
  unfold CM C9 C3
  rw [hrow_n (by decide), hrow_n (by decide), hrow_n (by decide), hrow_s]
theorem CM_71 : CM 71 = upd (upd (upd zrow 9 1) 22 15) 23 (-9) := by
  unfold CM
  rw [hrow_n (by decide), hrow_s]
theorem bg_fr : bgF C3 = frR := by
  funext i
  unfold bgF frR
  by_cases g1 : i < 4
  · rw [if_pos g1, if_pos g1]
  · rw [if_neg g1, if_neg g1]
    by_cases g2 : i < 32
    · rw [if_pos g2]
    · rw [if_neg g2]
      by_cases g3 : i < 38
      · rw [if_pos g3, pick_f]
        unfold okCar
        have : C3 3 3 = 0 := rfl
        rw [this]
        exact fun q => absurd (Int32.lt_of_le_of_lt q.1 q.2) (by decide)
      · rw [if_neg g3]
        by_cases g4 : i = 38
        · rw [if_pos g4]
          rfl
        · rw [if_neg g4]
theorem CM_9 : CM 9 = frR := by
  unfold CM C9
  rw [hrow_n (by decide), hrow_n (by decide), hrow_s, bg_fr]
theorem CM_78 : CM 78 = frR := by
  unfold CM
  rw [hrow_s]
theorem frR_0 {i : Nat} (h : 4 ≤ i) : frR i = 0 := if_neg (by omega)
theorem zrow_Cut : Cut zrow := fun _ _ => rfl
theorem rel0 : Rel 0 CM Z0 := by
  have z : ∀ a, (a != 71 && (a != 78 && (a != 9 && a != 3))) = true → CM a = zrow := fun a h => by
    simp at h
    exact CM_o h.1 h.2.1 h.2.2.1 h.2.2.2
  have f71 : ∀ i, i ≠ 9 → i ≠ 22 → i ≠ 23 → CM 71 i = 0 := fun i h1 h2 h3 => by
    rw [CM_71, upd_ne h3, upd_ne h2, upd_ne h1]
    rfl
  refine ⟨0, 0, 0, 0, 0, 0, ⟨rfl, by rw [CM_71, upd_ne (by decide), upd_eq], by rw [CM_71, upd_eq]⟩, ⟨⟨⟨⟨⟨by decide, by decide⟩, fun p hp => absurd hp (Nat.not_lt_zero p), fun c hc => absurd hc (Nat.not_lt_zero c)⟩, ?_, ?_⟩, ⟨?_, ?_, ?_⟩, fun p _ => ?_, fun c _ => ?_⟩, ⟨?_, ?_⟩, ?_, ?_⟩, ⟨⟨by decide, ?_, ?_⟩, fun i hi => absurd hi (Nat.not_lt_zero i)⟩, ⟨⟨⟨?_, by decide, ?_, by decide, fun j hj => ?_⟩, ?_, ?_⟩, fun i hi => absurd hi (Nat.not_lt_zero i)⟩, ⟨⟨?_, ?_⟩, Or.inl ⟨?_, ?_⟩, Or.inl ⟨?_, ?_⟩⟩, ⟨⟨by decide, ?_, ?_⟩, fun i hi => absurd hi (Nat.not_lt_zero i)⟩⟩
  · rw [CM_3]; rfl
  · rw [CM_3]; rfl
  · exact f71 2 (by decide) (by decide) (by decide)
  · exact f71 4 (by decide) (by decide) (by decide)
  · rw [CM_71, CM_3]; rfl
  · rw [z 73 rfl, z 4 rfl]
  · rw [z 74 rfl, z 75 rfl, z 76 rfl, z 77 rfl, z 5 rfl]
    exact ⟨rfl, rfl, rfl, rfl⟩
  · rw [CM_78, CM_9]
  · rw [CM_9]
    refine ⟨⟨frR_Cut, fun p hp => Or.inl ⟨if_pos hp, frR_0 (by omega)⟩⟩, fun p q hp _ _ => Or.inr (if_pos hp), fun c _ => ⟨0, by omega, frR_0 (by omega), fun _ => rfl⟩, fun p _ => ⟨0, by omega, frR_0 (by omega), fun _ => rfl⟩, fun p _ => Or.inl (frR_0 (by omega)), 0, by omega, frR_0 (by omega)⟩
  · rw [z 12 rfl]; exact zrow_Cut
  · rw [z 79 rfl]; exact zrow_Cut
  · rw [z 1 rfl]; rfl
  · exact f71 1 (by decide) (by decide) (by decide)
  · rw [z 15 rfl]; rfl
  · rw [z 15 rfl]; rfl
  · rw [CM_o (by omega) (by omega) (by omega) (by omega)]; exact zrow_Cut
  · exact f71 14 (by decide) (by decide) (by decide)
  · exact f71 13 (by decide) (by decide) (by decide)
  · rw [z 65 rfl]; exact zrow_Cut
  · rw [z 68 rfl]; exact zrow_Cut
  · rw [z 0 rfl]; exact hasP_0 (by decide)
  · rw [z 82 rfl]; rfl
  · rw [z 0 rfl]; exact hasP_0 (by decide)
  · rw [z 82 rfl]; rfl
  · rw [z 60 rfl]; rfl
  · exact f71 20 (by decide) (by decide) (by decide)
/-! the two objects' making -/
theorem new6 : jMeq (jup (fun _ => none) 0 (jO 6 (jdf tyX6))) (memS 1 C0 Z0) := by
  intro k
  by_cases h : k = 0
  · subst h
    rw [jup_s]
    refine ob_eq (by decide) rfl rfl fun i hi => ?_
    have hi : i < 11 := hi
    match i, hi with
    | 0, _ => rfl
    | 1, _ => rfl
    | 2, _ => rfl
    | 3, _ => rfl
    | 4, _ => rfl
    | 5, _ => rfl
    | 6, _ => rfl
    | 7, _ => rfl
    | 8, _ => rfl
    | 9, _ => rfl
    | 10, _ => rfl
    | i + 11, h => exact absurd h (by omega)
  · left
    rw [jup_n h, memS_ge (by omega)]
theorem new7 : jMeq (jup (memS 71 C9 Z0) 71 (jO 7 (jdf tyX7))) (memS 72 C9 Z0) := by
  have h71 : jCeq (jup (memS 71 C9 Z0) 71 (jO 7 (jdf tyX7)) 71) (memS 72 C9 Z0 71) := by
    rw [jup_s]
    refine ob_eq (by decide) rfl rfl fun i hi => ?_
    rw [show jrow 71 = 71 from rfl, C9_ge (by decide)]
    have hi : i < 39 := hi
    match i, hi with
    | 0, _ => rfl
    | 1, _ => rfl
    | 2, _ => rfl
    | 3, _ => rfl
    | 4, _ => rfl
    | 5, _ => rfl
    | 6, _ => rfl
    | 7, _ => rfl
    | 8, _ => rfl
    | 9, _ => rfl
    | 10, _ => rfl
    | 11, _ => rfl
    | 12, _ => rfl
    | 13, _ => rfl
    | 14, _ => rfl
    | 15, _ => rfl
    | 16, _ => rfl
    | 17, _ => rfl
    | 18, _ => rfl
    | 19, _ => rfl
    | 20, _ => rfl
    | 21, _ => rfl
    | 22, _ => rfl
    | 23, _ => rfl
    | 24, _ => rfl
    | 25, _ => rfl
    | 26, _ => rfl
    | 27, _ => rfl
    | 28, _ => rfl
    | 29, _ => rfl
    | 30, _ => rfl
    | 31, _ => rfl
    | 32, _ => rfl
    | 33, _ => rfl
    | 34, _ => rfl
    | 35, _ => rfl
    | 36, _ => rfl
    | 37, _ => rfl
    | 38, _ => rfl
    | i + 39, h => exact absurd h (by omega)
  refine blkG (d := 71) (d' := 72) (p := 71) (by decide) (by decide) h71 (fun k h1 h2 => jup_n h2) (fun k h1 h2 => ?_) (fun k h1 => ?_) (by decide +kernel)
  · rw [show k = 71 by omega]
    exact h71
  · rw [jup_n (by omega)]
    exact memS_ge (by omega)
theorem law_all {L : Nat} {xs : Nat → Int32} (hL : L ≤ 2560) : Rn Y_L_law (some (L, xs)) jQl 0 [some (.ref 1000), none, none, none] [] (fun _ => none) (0, 0, 0) := by
  refine jrun_first (OK_L_law L xs) (C := [18]) 30 ?_
  simp -implicitDefEqProofs only [jr_0, jr_1, jr_2, j_iconst, j_lconst, j_iload0, j_aload0, j_istore0, j_astore0, j_iinc0, j_iload1, j_aload1, j_istore1, j_astore1, j_iinc1, j_iload2, j_aload2, j_istore2, j_astore2, j_iinc2, j_iload3, j_aload3, j_istore3, j_astore3, j_iinc3, j_iload4, j_aload4, j_istore4, j_astore4, j_iinc4, j_iload5, j_aload5, j_istore5, j_astore5, j_iinc5, j_iload6, j_aload6, j_istore6, j_astore6, j_iinc6, j_iload7, j_aload7, j_istore7, j_astore7, j_iinc7, j_iload8, j_aload8, j_istore8, j_astore8, j_iinc8, j_iadd, j_isub, j_imul, j_iand, j_ior, j_ixor, j_ishl, j_ishr, j_iushr, j_idiv, j_irem, j_ineg, j_ladd, j_lmul, j_land, j_lor, j_lcmp, j_lushr, j_lshl, j_i2l, j_l2i, j_dupI, j_dupR, j_popI, j_dup2, j_ifeq, j_iceq, j_ifne, j_icne, j_iflt, j_iclt, j_ifge, j_icge, j_ifgt, j_icgt, j_ifle, j_icle, j_goto, j_tsw, j_sw0, j_sw1, j_ireturn, j_zreturn, j_lreturn, j_return, j_getfield, j_putI, j_putJ, j_putR, j_iaload, j_baload, j_iastore, j_bastore, j_aaload, j_q, j_aastore, j_acopy, j_mmin, j_mmax, j_mabs, j_objinit, j_new, j_newI, j_newQ, j_sld, j_slen, j_callV0, j_callI0, j_callS0, j_callV1, j_callI1, j_callS1, j_callV2, j_callI2, j_callS2, j_callV3, j_callS3, j_callV4, j_callS4, j_callV5, j_callS5, j_pushS, j_pushN, j_sh0, j_sh1, j_sh2, j_sh3, j_sh4, Int32.reduceAdd, Int32.reduceMul, Int32.reduceSub, Int32.reduceLT, Int32.reduceLE, eq_self, i32_10, i32_01, ne_eq, hrow_s, hrow_n, ne10, ne100, ne1000, ne7, ne4, ne14, ne9973, or_true, true_or, or_false, false_or, not_true_eq_false, not_false_eq_true, false_implies, implies_true, and_true, forall_const, true_implies, jargs_n, jargs_r, jargs_i, List.cons_append, List.nil_append, true_and, Nat.reduceEqDiff, reduceIte, ft_L_law_0, ft_L_law_3, ft_L_law_4, ft_L_law_7, ft_L_law_8, ft_L_law_11, ft_L_law_12, ft_L_law_15, ft_L_law_16, ft_L_law_17, ft_L_law_18, Nat.reduceAdd]
  refine ⟨⟨by decide, by decide, by decide⟩, jrcv_i jup_s, ⟨by decide, by decide⟩, ⟨rfl, rfl, new6, ?_⟩⟩
  simp -implicitDefEqProofs only [jr_0, jr_1, jr_2, j_iconst, j_lconst, j_iload0, j_aload0, j_istore0, j_astore0, j_iinc0, j_iload1, j_aload1, j_istore1, j_astore1, j_iinc1, j_iload2, j_aload2, j_istore2, j_astore2, j_iinc2, j_iload3, j_aload3, j_istore3, j_astore3, j_iinc3, j_iload4, j_aload4, j_istore4, j_astore4, j_iinc4, j_iload5, j_aload5, j_istore5, j_astore5, j_iinc5, j_iload6, j_aload6, j_istore6, j_astore6, j_iinc6, j_iload7, j_aload7, j_istore7, j_astore7, j_iinc7, j_iload8, j_aload8, j_istore8, j_astore8, j_iinc8, j_iadd, j_isub, j_imul, j_iand, j_ior, j_ixor, j_ishl, j_ishr, j_iushr, j_idiv, j_irem, j_ineg, j_ladd, j_lmul, j_land, j_lor, j_lcmp, j_lushr, j_lshl, j_i2l, j_l2i, j_dupI, j_dupR, j_popI, j_dup2, j_ifeq, j_iceq, j_ifne, j_icne, j_iflt, j_iclt, j_ifge, j_icge, j_ifgt, j_icgt, j_ifle, j_icle, j_goto, j_tsw, j_sw0, j_sw1, j_ireturn, j_zreturn, j_lreturn, j_return, j_getfield, j_putI, j_putJ, j_putR, j_iaload, j_baload, j_iastore, j_bastore, j_aaload, j_q, j_aastore, j_acopy, j_mmin, j_mmax, j_mabs, j_objinit, j_new, j_newI, j_newQ, j_sld, j_slen, j_callV0, j_callI0, j_callS0, j_callV1, j_callI1, j_callS1, j_callV2, j_callI2, j_callS2, j_callV3, j_callS3, j_callV4, j_callS4, j_callV5, j_callS5, j_pushS, j_pushN, j_sh0, j_sh1, j_sh2, j_sh3, j_sh4, Int32.reduceAdd, Int32.reduceMul, Int32.reduceSub, Int32.reduceLT, Int32.reduceLE, eq_self, i32_10, i32_01, ne_eq, hrow_s, hrow_n, ne10, ne100, ne1000, ne7, ne4, ne14, ne9973, or_true, true_or, or_false, false_or, not_true_eq_false, not_false_eq_true, false_implies, implies_true, and_true, forall_const, true_implies, jargs_n, jargs_r, jargs_i, List.cons_append, List.nil_append, true_and, Nat.reduceEqDiff, reduceIte, ft_L_law_0, ft_L_law_3, ft_L_law_4, ft_L_law_7, ft_L_law_8, ft_L_law_11, ft_L_law_12, ft_L_law_15, ft_L_law_16, ft_L_law_17, ft_L_law_18, Nat.reduceAdd]
  refine ⟨⟨memS_ge (by decide), by decide, by decide, by decide⟩, jrcv_i jup_s, ⟨by decide, by decide⟩, ⟨rfl, rfl, new7, ?_⟩⟩
  simp -implicitDefEqProofs only [jr_0, jr_1, jr_2, j_iconst, j_lconst, j_iload0, j_aload0, j_istore0, j_astore0, j_iinc0, j_iload1, j_aload1, j_istore1, j_astore1, j_iinc1, j_iload2, j_aload2, j_istore2, j_astore2, j_iinc2, j_iload3, j_aload3, j_istore3, j_astore3, j_iinc3, j_iload4, j_aload4, j_istore4, j_astore4, j_iinc4, j_iload5, j_aload5, j_istore5, j_astore5, j_iinc5, j_iload6, j_aload6, j_istore6, j_astore6, j_iinc6, j_iload7, j_aload7, j_istore7, j_astore7, j_iinc7, j_iload8, j_aload8, j_istore8, j_astore8, j_iinc8, j_iadd, j_isub, j_imul, j_iand, j_ior, j_ixor, j_ishl, j_ishr, j_iushr, j_idiv, j_irem, j_ineg, j_ladd, j_lmul, j_land, j_lor, j_lcmp, j_lushr, j_lshl, j_i2l, j_l2i, j_dupI, j_dupR, j_popI, j_dup2, j_ifeq, j_iceq, j_ifne, j_icne, j_iflt, j_iclt, j_ifge, j_icge, j_ifgt, j_icgt, j_ifle, j_icle, j_goto, j_tsw, j_sw0, j_sw1, j_ireturn, j_zreturn, j_lreturn, j_return, j_getfield, j_putI, j_putJ, j_putR, j_iaload, j_baload, j_iastore, j_bastore, j_aaload, j_q, j_aastore, j_acopy, j_mmin, j_mmax, j_mabs, j_objinit, j_new, j_newI, j_newQ, j_sld, j_slen, j_callV0, j_callI0, j_callS0, j_callV1, j_callI1, j_callS1, j_callV2, j_callI2, j_callS2, j_callV3, j_callS3, j_callV4, j_callS4, j_callV5, j_callS5, j_pushS, j_pushN, j_sh0, j_sh1, j_sh2, j_sh3, j_sh4, Int32.reduceAdd, Int32.reduceMul, Int32.reduceSub, Int32.reduceLT, Int32.reduceLE, eq_self, i32_10, i32_01, ne_eq, hrow_s, hrow_n, ne10, ne100, ne1000, ne7, ne4, ne14, ne9973, or_true, true_or, or_false, false_or, not_true_eq_false, not_false_eq_true, false_implies, implies_true, and_true, forall_const, true_implies, jargs_n, jargs_r, jargs_i, List.cons_append, List.nil_append, true_and, Nat.reduceEqDiff, reduceIte, ft_L_law_0, ft_L_law_3, ft_L_law_4, ft_L_law_7, ft_L_law_8, ft_L_law_11, ft_L_law_12, ft_L_law_15, ft_L_law_16, ft_L_law_17, ft_L_law_18, Nat.reduceAdd]
  exact law_loop hL 512 0 CM Z0 rel0 (by omega) (by omega)
