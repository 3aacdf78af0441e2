/-! Feed: what one post does in one part of a minute, as functions on rows (T traits, Am amps) -/
def hasP (a k : Int32) : Prop := (a >>> (k &&& 31)) &&& 1 = 1
theorem s_X6_hasP {nb : Nat} {mem : jM} {a k : Int32} {Q : jQ} : S_X6_has nb [.int a, .int k] mem Q = Q (some (.int (zb (hasP a k)))) mem := s_X6_has
def liveP (ρ : Nat → Int32) (p : Int32) : Prop := rget ρ p 2 = 1 ∨ rget ρ p 2 = 2 ∨ rget ρ p 2 = 3
theorem s_X4_liveP {nb d s : Nat} {C : Nat → Nat → Int32} {z : Nat → Int64} {p : Int32} {Q : jQ} (h : jSt s d) : S_X4_isLive nb [.ref s, .int p] (memS d C z) Q = Q (some (.int (zb (liveP (C s) p)))) (memS d C z) := s_X4_isLive h
noncomputable def kdF (T ρ : Nat → Int32) (p l : Int32) : Int32 := pick (rget ρ p 1 = l) 1 (traitF T (rget ρ p 1) 3)
def overF (T ρ : Nat → Int32) (p q : Int32) : Prop := 0 < traitF T (rget ρ p 1) 2 - traitF T (rget ρ q 1) 2 ∨ traitF T (rget ρ p 1) 2 - traitF T (rget ρ q 1) 2 = 0 ∧ ¬ rrest ρ (rget ρ p 1) ≤ rrest ρ (rget ρ q 1)
noncomputable def mostF (T Am ρ : Nat → Int32) (p l : Int32) : Int32 := pick (kdF T ρ p l = 2) (minI (minI (minI (traitF T (rget ρ p 1) 1) (ampsF Am p)) (rrest ρ (rget ρ p 1))) 2) (minI (minI (traitF T (rget ρ p 1) 1) (ampsF Am p)) (rrest ρ (rget ρ p 1)))
noncomputable def growF (T ρ : Nat → Int32) (p l : Int32) : Nat → Int32 := pick (¬ rget ρ p 5 + 1 < 2 ∧ kdF T (rset ρ p 5 (rget ρ p 5 + 1)) p l = 2) (rset (rset ρ p 5 (rget ρ p 5 + 1)) p 2 2) (rset ρ p 5 (rget ρ p 5 + 1))
noncomputable def stStep (T : Nat → Int32) (l p : Int32) (ρ : Nat → Int32) : Nat → Int32 := pick (rget ρ p 2 = 1) (growF T ρ p l) (pick (rget ρ p 2 = 2 ∧ ¬ rrest ρ (rget ρ p 1) = 0) (rset ρ p 2 3) (pick (rget ρ p 2 = 3 ∧ rrest ρ (rget ρ p 1) = 0) (rset ρ p 2 2) ρ))
noncomputable def silStep (T : Nat → Int32) (pat sil l p : Int32) (ρ : Nat → Int32) : Nat → Int32 := pick (hasP sil p ∧ liveP ρ p ∧ ¬ kdF T ρ p l = 2) (pick (rget ρ p 4 + 1 ≤ pat) (rset ρ p 4 (rget ρ p 4 + 1)) (rset (rset ρ p 4 (rget ρ p 4 + 1)) p 2 4)) ρ
def mtF1 (ρ : Nat → Int32) (p a : Int32) : Nat → Int32 := rsetR ρ (rget ρ p 1) (maxI 0 (rrest ρ (rget ρ p 1) - a))
def mtF2 (ρ : Nat → Int32) (p a : Int32) : Nat → Int32 := rset (mtF1 ρ p a) p 7 (rget (mtF1 ρ p a) p 7 + a)
def meterF (ρ : Nat → Int32) (p a : Int32) : Nat → Int32 := rset (mtF2 ρ p a) p 8 (signF (rget (mtF2 ρ p a) p 8) p a)
noncomputable def exceedF (ρ : Nat → Int32) (p : Int32) : Nat → Int32 := pick (rget ρ p 6 + 1 = 2) (rset (rset ρ p 2 4) p 6 0) (rset ρ p 6 (rget ρ p 6 + 1))
noncomputable def drawStep (T : Nat → Int32) (l p g : Int32) (ρ : Nat → Int32) : Nat → Int32 := pick (0 < g) (pick (kdF T ρ p l = 1) (exceedF (meterF ρ p (g + 1)) p) (meterF ρ p g)) ρ
/-! loops over posts: the first k posts -/
def foldP (f : Int32 → (Nat → Int32) → (Nat → Int32)) (ρ : Nat → Int32) : Nat → (Nat → Int32)
  | 0 => ρ
  | k + 1 => f (nI k) (foldP f ρ k)
theorem jst_ne {s d : Nat} (h : jSt s d) : (3 = s) = False ∧ (4 = s) = False ∧ (5 = s) = False ∧ (7 = s) = False ∧ (8 = s) = False := by
  have : ∀ s, s < 94 → jStB s = true → s ≠ 3 ∧ s ≠ 4 ∧ s ≠ 5 ∧ s ≠ 7 ∧ s ≠ 8 := by decide +kernel
  have h1 := this s (by have := h.2; omega) h.1
  refine ⟨?_, ?_, ?_, ?_, ?_⟩ <;> simp <;> omega
def F_X0_kindAt_0 : Nat → jT := fun pc => (bif Nat.blt pc 14 then (bif Nat.blt pc 6 then (bif Nat.blt pc 2 then (bif Nat.blt pc 1 then (bif Nat.beq pc 0 then J_aload 1 1 else jbad) else (bif Nat.beq pc 1 then J_iload 2 2 else jbad)) else (bif Nat.blt pc 3 then (bif Nat.beq pc 2 then J_iconst 1 3 else jbad) else (bif Nat.beq pc 3 then J_callV 4 S_X4_get 2 6 else jbad))) else (bif Nat.blt pc 10 then (bif Nat.blt pc 8 then (bif Nat.beq pc 6 then J_istore 4 8 else jbad) else (bif Nat.beq pc 8 then J_iload 4 10 else jbad)) else (bif Nat.blt pc 11 then (bif Nat.beq pc 10 then J_iload 3 11 else jbad) else (bif Nat.beq pc 11 then J_icne 18 14 else jbad)))) else (bif Nat.blt pc 22 then (bif Nat.blt pc 18 then (bif Nat.blt pc 15 then (bif Nat.beq pc 14 then J_iconst 1 15 else jbad) else (bif Nat.beq pc 15 then J_goto 28 else jbad)) else (bif Nat.blt pc 19 then (bif Nat.beq pc 18 then J_aload 0 19 else jbad) else (bif Nat.beq pc 19 then J_getfield 0 0 22 else jbad))) else (bif Nat.blt pc 25 then (bif Nat.blt pc 24 then (bif Nat.beq pc 22 then J_iload 4 24 else jbad) else (bif Nat.beq pc 24 then J_iconst 3 25 else jbad)) else (bif Nat.blt pc 28 then (bif Nat.beq pc 25 then J_callV 3 S_X3_trait 2 28 else jbad) else (bif Nat.beq pc 28 then J_ireturn 0 0 else jbad)))))
theorem ftl_X0_kindAt_0 : F_X0_kindAt_0 0 = J_aload 1 1 := rfl
theorem ftl_X0_kindAt_1 : F_X0_kindAt_0 1 = J_iload 2 2 := rfl
theorem ftl_X0_kindAt_2 : F_X0_kindAt_0 2 = J_iconst 1 3 := rfl
theorem ftl_X0_kindAt_3 : F_X0_kindAt_0 3 = J_callV 4 S_X4_get 2 6 := rfl
theorem ftl_X0_kindAt_6 : F_X0_kindAt_0 6 = J_istore 4 8 := rfl
theorem ftl_X0_kindAt_8 : F_X0_kindAt_0 8 = J_iload 4 10 := rfl
theorem ftl_X0_kindAt_10 : F_X0_kindAt_0 10 = J_iload 3 11 := rfl
theorem ftl_X0_kindAt_11 : F_X0_kindAt_0 11 = J_icne 18 14 := rfl
theorem ftl_X0_kindAt_14 : F_X0_kindAt_0 14 = J_iconst 1 15 := rfl
theorem ftl_X0_kindAt_15 : F_X0_kindAt_0 15 = J_goto 28 := rfl
theorem ftl_X0_kindAt_18 : F_X0_kindAt_0 18 = J_aload 0 19 := rfl
theorem ftl_X0_kindAt_19 : F_X0_kindAt_0 19 = J_getfield 0 0 22 := rfl
theorem ftl_X0_kindAt_22 : F_X0_kindAt_0 22 = J_iload 4 24 := rfl
theorem ftl_X0_kindAt_24 : F_X0_kindAt_0 24 = J_iconst 3 25 := rfl
theorem ftl_X0_kindAt_25 : F_X0_kindAt_0 25 = J_callV 3 S_X3_trait 2 28 := rfl
theorem ftl_X0_kindAt_28 : F_X0_kindAt_0 28 = J_ireturn 0 0 := rfl
theorem F_X0_kindAt_0_ok : jOK Y_X0_kindAt none (F_X0_kindAt_0) := (jOK_node (jOK_node (jOK_node (jOK_node (jOK_leaf (sn_aload_n dX0_kindAt_0 rfl rfl)) (jOK_leaf (sn_iload_n dX0_kindAt_1 rfl rfl))) (jOK_node (jOK_leaf (sn_iconst dX0_kindAt_2 rfl rfl)) (jOK_leaf (sn_callV (Y' := Y_X4_get) ok_X4_get dX0_kindAt_3 rfl rfl rfl tw_306 tw_267 tw_268 tw_5 jc_X4_get rfl ⟨by decide, by decide, rfl⟩ ⟨by decide, by decide⟩)))) (jOK_node (jOK_node (jOK_leaf (sn_istore dX0_kindAt_6 rfl (by decide))) (jOK_leaf (sn_iload dX0_kindAt_8 rfl))) (jOK_node (jOK_leaf (sn_iload_n dX0_kindAt_10 rfl rfl)) (jOK_leaf (sn_icne dX0_kindAt_11 rfl rfl))))) (jOK_node (jOK_node (jOK_node (jOK_leaf (sn_iconst dX0_kindAt_14 rfl rfl)) (jOK_leaf (sn_goto dX0_kindAt_15 rfl))) (jOK_node (jOK_leaf (sn_aload_n dX0_kindAt_18 rfl rfl)) (jOK_leaf (sn_getfield dX0_kindAt_19 rfl rfl (by decide) tw_73 jin0)))) (jOK_node (jOK_node (jOK_leaf (sn_iload dX0_kindAt_22 rfl)) (jOK_leaf (sn_iconst dX0_kindAt_24 rfl rfl))) (jOK_node (jOK_leaf (sn_callV (Y' := Y_X3_trait) ok_X3_trait dX0_kindAt_25 rfl rfl rfl tw_314 tw_163 tw_164 tw_3 jc_X3_trait rfl ⟨by decide, by decide, rfl⟩ ⟨by decide, by decide⟩)) (jOK_leaf (sn_ireturn dX0_kindAt_28 rfl rfl))))))
def F_X0_kindAt : Nat → jT := F_X0_kindAt_0
theorem OK_X0_kindAt : jOK Y_X0_kindAt none (F_X0_kindAt) := F_X0_kindAt_0_ok
theorem ft_X0_kindAt_0 : F_X0_kindAt 0 = J_aload 1 1 := ftl_X0_kindAt_0
theorem ft_X0_kindAt_1 : F_X0_kindAt 1 = J_iload 2 2 := ftl_X0_kindAt_1
theorem ft_X0_kindAt_2 : F_X0_kindAt 2 = J_iconst 1 3 := ftl_X0_kindAt_2
theorem ft_X0_kindAt_3 : F_X0_kindAt 3 = J_callV 4 S_X4_get 2 6 := ftl_X0_kindAt_3
theorem ft_X0_kindAt_6 : F_X0_kindAt 6 = J_istore 4 8 := ftl_X0_kindAt_6
theorem ft_X0_kindAt_8 : F_X0_kindAt 8 = J_iload 4 10 := ftl_X0_kindAt_8
theorem ft_X0_kindAt_10 : F_X0_kindAt 10 = J_iload 3 11 := ftl_X0_kindAt_10
theorem ft_X0_kindAt_11 : F_X0_kindAt 11 = J_icne 18 14 := ftl_X0_kindAt_11
theorem ft_X0_kindAt_14 : F_X0_kindAt 14 = J_iconst 1 15 := ftl_X0_kindAt_14
theorem ft_X0_kindAt_15 : F_X0_kindAt 15 = J_goto 28 := ftl_X0_kindAt_15
theorem ft_X0_kindAt_18 : F_X0_kindAt 18 = J_aload 0 19 := ftl_X0_kindAt_18
theorem ft_X0_kindAt_19 : F_X0_kindAt 19 = J_getfield 0 0 22 := ftl_X0_kindAt_19
theorem ft_X0_kindAt_22 : F_X0_kindAt 22 = J_iload 4 24 := ftl_X0_kindAt_22
theorem ft_X0_kindAt_24 : F_X0_kindAt 24 = J_iconst 3 25 := ftl_X0_kindAt_24
theorem ft_X0_kindAt_25 : F_X0_kindAt 25 = J_callV 3 S_X3_trait 2 28 := ftl_X0_kindAt_25
theorem ft_X0_kindAt_28 : F_X0_kindAt 28 = J_ireturn 0 0 := ftl_X0_kindAt_28
def S_X0_kindAt : jSp := fun nb vs mem Q => jcs vs ≤ 5 ∧ jrun F_X0_kindAt [] 60 Q (fun _ _ _ _ _ => False) 0 (jargs vs ++ [none]) [] mem (nb, 0, 0)
theorem ok_X0_kindAt : jMeets Y_X0_kindAt S_X0_kindAt := fun _ _ _ _ h => Ok.inl OK_X0_kindAt 60 [none] pn0 rfl h
theorem s_X0_kindAt {nb s : Nat} {C : Nat → Nat → Int32} {z : Nat → Int64} {p l : Int32} {Q : jQ} (h : jSt s 94) : S_X0_kindAt nb [.ref 6, .ref s, .int p, .int l] (memS 94 C z) Q = Q (some (.int (kdF (C 5) (C s) p l))) (memS 94 C z) := by
  refine (eq_le rfl).trans ?_
  simp -implicitDefEqProofs only [jr_0, jr_1, jr_2, j_iconst, j_lconst, j_iload0, j_aload0, j_istore0, j_astore0, j_iinc0, j_iload1, j_aload1, j_istore1, j_astore1, j_iinc1, j_iload2, j_aload2, j_istore2, j_astore2, j_iinc2, j_iload3, j_aload3, j_istore3, j_astore3, j_iinc3, j_iload4, j_aload4, j_istore4, j_astore4, j_iinc4, j_iload5, j_aload5, j_istore5, j_astore5, j_iinc5, j_iload6, j_aload6, j_istore6, j_astore6, j_iinc6, j_iload7, j_aload7, j_istore7, j_astore7, j_iinc7, j_iload8, j_aload8, j_istore8, j_astore8, j_iinc8, j_iadd, j_isub, j_imul, j_iand, j_ior, j_ixor, j_ishl, j_ishr, j_iushr, j_idiv, j_irem, j_ineg, j_ladd, j_lmul, j_land, j_lor, j_lcmp, j_lushr, j_lshl, j_i2l, j_l2i, j_dupI, j_dupR, j_popI, j_dup2, j_ifeq, j_iceq, j_ifne, j_icne, j_iflt, j_iclt, j_ifge, j_icge, j_ifgt, j_icgt, j_ifle, j_icle, j_goto, j_tsw, j_sw0, j_sw1, j_ireturn, j_zreturn, j_lreturn, j_return, j_getfield, j_putI, j_putJ, j_putR, j_iaload, j_baload, j_iastore, j_bastore, j_aaload, j_q, j_aastore, j_acopy, j_mmin, j_mmax, j_mabs, j_objinit, j_new, j_newI, j_newQ, j_sld, j_slen, j_callV0, j_callI0, j_callS0, j_callV1, j_callI1, j_callS1, j_callV2, j_callI2, j_callS2, j_callV3, j_callS3, j_callV4, j_callS4, j_callV5, j_callS5, j_pushS, j_pushN, j_sh0, j_sh1, j_sh2, j_sh3, j_sh4, Int32.reduceAdd, Int32.reduceMul, Int32.reduceSub, Int32.reduceLT, Int32.reduceLE, eq_self, i32_10, i32_01, ne_eq, hrow_s, hrow_n, ne10, ne100, ne1000, ne7, ne4, ne14, ne9973, or_true, true_or, or_false, false_or, not_true_eq_false, not_false_eq_true, false_implies, implies_true, and_true, forall_const, true_implies, jargs_n, jargs_r, jargs_i, List.cons_append, List.nil_append, true_and, Nat.reduceEqDiff, reduceIte, ft_X0_kindAt_0, ft_X0_kindAt_1, ft_X0_kindAt_2, ft_X0_kindAt_3, ft_X0_kindAt_6, ft_X0_kindAt_8, ft_X0_kindAt_10, ft_X0_kindAt_11, ft_X0_kindAt_14, ft_X0_kindAt_15, ft_X0_kindAt_18, ft_X0_kindAt_19, ft_X0_kindAt_22, ft_X0_kindAt_24, ft_X0_kindAt_25, ft_X0_kindAt_28, jrcv_st h, rc_3, fl_6_0, s_X4_get h, s_X3_trait jD94]
  by_cases h1 : rget (C s) p 1 = l
  · unfold kdF
    rw [pick_t h1]
    simp [h1]
  · unfold kdF
    rw [pick_f h1]
    simp [h1]
def F_X0_overtakes_0 : Nat → jT := fun pc => (bif Nat.blt pc 6 then (bif Nat.blt pc 2 then (bif Nat.blt pc 1 then (bif Nat.beq pc 0 then J_aload 1 1 else jbad) else (bif Nat.beq pc 1 then J_iload 2 2 else jbad)) else (bif Nat.blt pc 3 then (bif Nat.beq pc 2 then J_iconst 1 3 else jbad) else (bif Nat.beq pc 3 then J_callV 4 S_X4_get 2 6 else jbad))) else (bif Nat.blt pc 9 then (bif Nat.blt pc 8 then (bif Nat.beq pc 6 then J_istore 4 8 else jbad) else (bif Nat.beq pc 8 then J_aload 1 9 else jbad)) else (bif Nat.blt pc 10 then (bif Nat.beq pc 9 then J_iload 3 10 else jbad) else (bif Nat.blt pc 11 then (bif Nat.beq pc 10 then J_iconst 1 11 else jbad) else (bif Nat.beq pc 11 then J_callV 4 S_X4_get 2 14 else jbad)))))
theorem ftl_X0_overtakes_0 : F_X0_overtakes_0 0 = J_aload 1 1 := rfl
theorem ftl_X0_overtakes_1 : F_X0_overtakes_0 1 = J_iload 2 2 := rfl
theorem ftl_X0_overtakes_2 : F_X0_overtakes_0 2 = J_iconst 1 3 := rfl
theorem ftl_X0_overtakes_3 : F_X0_overtakes_0 3 = J_callV 4 S_X4_get 2 6 := rfl
theorem ftl_X0_overtakes_6 : F_X0_overtakes_0 6 = J_istore 4 8 := rfl
theorem ftl_X0_overtakes_8 : F_X0_overtakes_0 8 = J_aload 1 9 := rfl
theorem ftl_X0_overtakes_9 : F_X0_overtakes_0 9 = J_iload 3 10 := rfl
theorem ftl_X0_overtakes_10 : F_X0_overtakes_0 10 = J_iconst 1 11 := rfl
theorem ftl_X0_overtakes_11 : F_X0_overtakes_0 11 = J_callV 4 S_X4_get 2 14 := rfl
theorem F_X0_overtakes_0_ok : jOK Y_X0_overtakes none (F_X0_overtakes_0) := (jOK_node (jOK_node (jOK_node (jOK_leaf (sn_aload_n dX0_overtakes_0 rfl rfl)) (jOK_leaf (sn_iload_n dX0_overtakes_1 rfl rfl))) (jOK_node (jOK_leaf (sn_iconst dX0_overtakes_2 rfl rfl)) (jOK_leaf (sn_callV (Y' := Y_X4_get) ok_X4_get dX0_overtakes_3 rfl rfl rfl tw_306 tw_267 tw_268 tw_5 jc_X4_get rfl ⟨by decide, by decide, rfl⟩ ⟨by decide, by decide⟩)))) (jOK_node (jOK_node (jOK_leaf (sn_istore dX0_overtakes_6 rfl (by decide))) (jOK_leaf (sn_aload_n dX0_overtakes_8 rfl rfl))) (jOK_node (jOK_leaf (sn_iload_n dX0_overtakes_9 rfl rfl)) (jOK_node (jOK_leaf (sn_iconst dX0_overtakes_10 rfl rfl)) (jOK_leaf (sn_callV (Y' := Y_X4_get) ok_X4_get dX0_overtakes_11 rfl rfl rfl tw_306 tw_267 tw_268 tw_5 jc_X4_get rfl ⟨by decide, by decide, rfl⟩ ⟨by decide, by decide⟩))))))
def F_X0_overtakes_14 : Nat → jT := fun pc => (bif Nat.blt pc 22 then (bif Nat.blt pc 17 then (bif Nat.blt pc 16 then (bif Nat.beq pc 14 then J_istore 5 16 else jbad) else (bif Nat.beq pc 16 then J_aload 0 17 else jbad)) else (bif Nat.blt pc 20 then (bif Nat.beq pc 17 then J_getfield 0 0 20 else jbad) else (bif Nat.beq pc 20 then J_iload 4 22 else jbad))) else (bif Nat.blt pc 26 then (bif Nat.blt pc 23 then (bif Nat.beq pc 22 then J_iconst 2 23 else jbad) else (bif Nat.beq pc 23 then J_callV 3 S_X3_trait 2 26 else jbad)) else (bif Nat.blt pc 27 then (bif Nat.beq pc 26 then J_aload 0 27 else jbad) else (bif Nat.blt pc 30 then (bif Nat.beq pc 27 then J_getfield 0 0 30 else jbad) else (bif Nat.beq pc 30 then J_iload 5 32 else jbad)))))
theorem ftl_X0_overtakes_14 : F_X0_overtakes_14 14 = J_istore 5 16 := rfl
theorem ftl_X0_overtakes_16 : F_X0_overtakes_14 16 = J_aload 0 17 := rfl
theorem ftl_X0_overtakes_17 : F_X0_overtakes_14 17 = J_getfield 0 0 20 := rfl
theorem ftl_X0_overtakes_20 : F_X0_overtakes_14 20 = J_iload 4 22 := rfl
theorem ftl_X0_overtakes_22 : F_X0_overtakes_14 22 = J_iconst 2 23 := rfl
theorem ftl_X0_overtakes_23 : F_X0_overtakes_14 23 = J_callV 3 S_X3_trait 2 26 := rfl
theorem ftl_X0_overtakes_26 : F_X0_overtakes_14 26 = J_aload 0 27 := rfl
theorem ftl_X0_overtakes_27 : F_X0_overtakes_14 27 = J_getfield 0 0 30 := rfl
theorem ftl_X0_overtakes_30 : F_X0_overtakes_14 30 = J_iload 5 32 := rfl
theorem F_X0_overtakes_14_ok : jOK Y_X0_overtakes none (F_X0_overtakes_14) := (jOK_node (jOK_node (jOK_node (jOK_leaf (sn_istore dX0_overtakes_14 rfl (by decide))) (jOK_leaf (sn_aload_n dX0_overtakes_16 rfl rfl))) (jOK_node (jOK_leaf (sn_getfield dX0_overtakes_17 rfl rfl (by decide) tw_73 jin0)) (jOK_leaf (sn_iload dX0_overtakes_20 rfl)))) (jOK_node (jOK_node (jOK_leaf (sn_iconst dX0_overtakes_22 rfl rfl)) (jOK_leaf (sn_callV (Y' := Y_X3_trait) ok_X3_trait dX0_overtakes_23 rfl rfl rfl tw_314 tw_163 tw_164 tw_3 jc_X3_trait rfl ⟨by decide, by decide, rfl⟩ ⟨by decide, by decide⟩))) (jOK_node (jOK_leaf (sn_aload_n dX0_overtakes_26 rfl rfl)) (jOK_node (jOK_leaf (sn_getfield dX0_overtakes_27 rfl rfl (by decide) tw_73 jin0)) (jOK_leaf (sn_iload dX0_overtakes_30 rfl))))))
def F_X0_overtakes_0_30 : Nat → jT := fun pc => bif Nat.blt pc 14 then F_X0_overtakes_0 pc else F_X0_overtakes_14 pc
theorem F_X0_overtakes_0_30_ok : jOK Y_X0_overtakes none (F_X0_overtakes_0_30) := jOK_node (F_X0_overtakes_0_ok) (F_X0_overtakes_14_ok)
def F_X0_overtakes_32 : Nat → jT := fun pc => (bif Nat.blt pc 39 then (bif Nat.blt pc 36 then (bif Nat.blt pc 33 then (bif Nat.beq pc 32 then J_iconst 2 33 else jbad) else (bif Nat.beq pc 33 then J_callV 3 S_X3_trait 2 36 else jbad)) else (bif Nat.blt pc 37 then (bif Nat.beq pc 36 then J_isub 37 else jbad) else (bif Nat.beq pc 37 then J_istore 6 39 else jbad))) else (bif Nat.blt pc 44 then (bif Nat.blt pc 41 then (bif Nat.beq pc 39 then J_iload 6 41 else jbad) else (bif Nat.beq pc 41 then J_ifgt 64 44 else jbad)) else (bif Nat.blt pc 46 then (bif Nat.beq pc 44 then J_iload 6 46 else jbad) else (bif Nat.blt pc 49 then (bif Nat.beq pc 46 then J_ifne 68 49 else jbad) else (bif Nat.beq pc 49 then J_aload 1 50 else jbad)))))
theorem ftl_X0_overtakes_32 : F_X0_overtakes_32 32 = J_iconst 2 33 := rfl
theorem ftl_X0_overtakes_33 : F_X0_overtakes_32 33 = J_callV 3 S_X3_trait 2 36 := rfl
theorem ftl_X0_overtakes_36 : F_X0_overtakes_32 36 = J_isub 37 := rfl
theorem ftl_X0_overtakes_37 : F_X0_overtakes_32 37 = J_istore 6 39 := rfl
theorem ftl_X0_overtakes_39 : F_X0_overtakes_32 39 = J_iload 6 41 := rfl
theorem ftl_X0_overtakes_41 : F_X0_overtakes_32 41 = J_ifgt 64 44 := rfl
theorem ftl_X0_overtakes_44 : F_X0_overtakes_32 44 = J_iload 6 46 := rfl
theorem ftl_X0_overtakes_46 : F_X0_overtakes_32 46 = J_ifne 68 49 := rfl
theorem ftl_X0_overtakes_49 : F_X0_overtakes_32 49 = J_aload 1 50 := rfl
theorem F_X0_overtakes_32_ok : jOK Y_X0_overtakes none (F_X0_overtakes_32) := (jOK_node (jOK_node (jOK_node (jOK_leaf (sn_iconst dX0_overtakes_32 rfl rfl)) (jOK_leaf (sn_callV (Y' := Y_X3_trait) ok_X3_trait dX0_overtakes_33 rfl rfl rfl tw_314 tw_163 tw_164 tw_3 jc_X3_trait rfl ⟨by decide, by decide, rfl⟩ ⟨by decide, by decide⟩))) (jOK_node (jOK_leaf (sn_isub dX0_overtakes_36 rfl)) (jOK_leaf (sn_istore dX0_overtakes_37 rfl (by decide))))) (jOK_node (jOK_node (jOK_leaf (sn_iload dX0_overtakes_39 rfl)) (jOK_leaf (sn_ifgt dX0_overtakes_41 rfl rfl))) (jOK_node (jOK_leaf (sn_iload dX0_overtakes_44 rfl)) (jOK_node (jOK_leaf (sn_ifne dX0_overtakes_46 rfl rfl)) (jOK_leaf (sn_aload_n dX0_overtakes_49 rfl rfl))))))
def F_X0_overtakes_50 : Nat → jT := fun pc => (bif Nat.blt pc 61 then (bif Nat.blt pc 55 then (bif Nat.blt pc 52 then (bif Nat.beq pc 50 then J_iload 4 52 else jbad) else (bif Nat.beq pc 52 then J_callV 4 S_X4_restOf 1 55 else jbad)) else (bif Nat.blt pc 56 then (bif Nat.beq pc 55 then J_aload 1 56 else jbad) else (bif Nat.blt pc 58 then (bif Nat.beq pc 56 then J_iload 5 58 else jbad) else (bif Nat.beq pc 58 then J_callV 4 S_X4_restOf 1 61 else jbad)))) else (bif Nat.blt pc 65 then (bif Nat.blt pc 64 then (bif Nat.beq pc 61 then J_icle 68 64 else jbad) else (bif Nat.beq pc 64 then J_iconst 1 65 else jbad)) else (bif Nat.blt pc 68 then (bif Nat.beq pc 65 then J_goto 69 else jbad) else (bif Nat.blt pc 69 then (bif Nat.beq pc 68 then J_iconst 0 69 else jbad) else (bif Nat.beq pc 69 then J_zreturn 0 0 else jbad)))))
theorem ftl_X0_overtakes_50 : F_X0_overtakes_50 50 = J_iload 4 52 := rfl
theorem ftl_X0_overtakes_52 : F_X0_overtakes_50 52 = J_callV 4 S_X4_restOf 1 55 := rfl
theorem ftl_X0_overtakes_55 : F_X0_overtakes_50 55 = J_aload 1 56 := rfl
theorem ftl_X0_overtakes_56 : F_X0_overtakes_50 56 = J_iload 5 58 := rfl
theorem ftl_X0_overtakes_58 : F_X0_overtakes_50 58 = J_callV 4 S_X4_restOf 1 61 := rfl
theorem ftl_X0_overtakes_61 : F_X0_overtakes_50 61 = J_icle 68 64 := rfl
theorem ftl_X0_overtakes_64 : F_X0_overtakes_50 64 = J_iconst 1 65 := rfl
theorem ftl_X0_overtakes_65 : F_X0_overtakes_50 65 = J_goto 69 := rfl
theorem ftl_X0_overtakes_68 : F_X0_overtakes_50 68 = J_iconst 0 69 := rfl
theorem ftl_X0_overtakes_69 : F_X0_overtakes_50 69 = J_zreturn 0 0 := rfl
theorem F_X0_overtakes_50_ok : jOK Y_X0_overtakes none (F_X0_overtakes_50) := (jOK_node (jOK_node (jOK_node (jOK_leaf (sn_iload dX0_overtakes_50 rfl)) (jOK_leaf (sn_callV (Y' := Y_X4_restOf) ok_X4_restOf dX0_overtakes_52 rfl rfl rfl tw_315 tw_279 tw_280 tw_5 jc_X4_restOf rfl ⟨by decide, by decide, rfl⟩ ⟨by decide, by decide⟩))) (jOK_node (jOK_leaf (sn_aload_n dX0_overtakes_55 rfl rfl)) (jOK_node (jOK_leaf (sn_iload dX0_overtakes_56 rfl)) (jOK_leaf (sn_callV (Y' := Y_X4_restOf) ok_X4_restOf dX0_overtakes_58 rfl rfl rfl tw_315 tw_279 tw_280 tw_5 jc_X4_restOf rfl ⟨by decide, by decide, rfl⟩ ⟨by decide, by decide⟩))))) (jOK_node (jOK_node (jOK_leaf (sn_icle dX0_overtakes_61 rfl rfl)) (jOK_leaf (sn_iconst dX0_overtakes_64 rfl rfl))) (jOK_node (jOK_leaf (sn_goto dX0_overtakes_65 rfl)) (jOK_node (jOK_leaf (sn_iconst dX0_overtakes_68 rfl rfl)) (jOK_leaf (sn_zreturn dX0_overtakes_69 rfl rfl))))))
def F_X0_overtakes_32_69 : Nat → jT := fun pc => bif Nat.blt pc 50 then F_X0_overtakes_32 pc else F_X0_overtakes_50 pc
theorem F_X0_overtakes_32_69_ok : jOK Y_X0_overtakes none (F_X0_overtakes_32_69) := jOK_node (F_X0_overtakes_32_ok) (F_X0_overtakes_50_ok)
def F_X0_overtakes_0_69 : Nat → jT := fun pc => bif Nat.blt pc 32 then F_X0_overtakes_0_30 pc else F_X0_overtakes_32_69 pc
theorem F_X0_overtakes_0_69_ok : jOK Y_X0_overtakes none (F_X0_overtakes_0_69) := jOK_node (F_X0_overtakes_0_30_ok) (F_X0_overtakes_32_69_ok)
def F_X0_overtakes : Nat → jT := F_X0_overtakes_0_69
theorem OK_X0_overtakes : jOK Y_X0_overtakes none (F_X0_overtakes) := F_X0_overtakes_0_69_ok
theorem ft_X0_overtakes_0 : F_X0_overtakes 0 = J_aload 1 1 := ftl_X0_overtakes_0
theorem ft_X0_overtakes_1 : F_X0_overtakes 1 = J_iload 2 2 := ftl_X0_overtakes_1
theorem ft_X0_overtakes_2 : F_X0_overtakes 2 = J_iconst 1 3 := ftl_X0_overtakes_2
theorem ft_X0_overtakes_3 : F_X0_overtakes 3 = J_callV 4 S_X4_get 2 6 := ftl_X0_overtakes_3
theorem ft_X0_overtakes_6 : F_X0_overtakes 6 = J_istore 4 8 := ftl_X0_overtakes_6
theorem ft_X0_overtakes_8 : F_X0_overtakes 8 = J_aload 1 9 := ftl_X0_overtakes_8
theorem ft_X0_overtakes_9 : F_X0_overtakes 9 = J_iload 3 10 := ftl_X0_overtakes_9
theorem ft_X0_overtakes_10 : F_X0_overtakes 10 = J_iconst 1 11 := ftl_X0_overtakes_10
theorem ft_X0_overtakes_11 : F_X0_overtakes 11 = J_callV 4 S_X4_get 2 14 := ftl_X0_overtakes_11
theorem ft_X0_overtakes_14 : F_X0_overtakes 14 = J_istore 5 16 := ftl_X0_overtakes_14
theorem ft_X0_overtakes_16 : F_X0_overtakes 16 = J_aload 0 17 := ftl_X0_overtakes_16
theorem ft_X0_overtakes_17 : F_X0_overtakes 17 = J_getfield 0 0 20 := ftl_X0_overtakes_17
theorem ft_X0_overtakes_20 : F_X0_overtakes 20 = J_iload 4 22 := ftl_X0_overtakes_20
theorem ft_X0_overtakes_22 : F_X0_overtakes 22 = J_iconst 2 23 := ftl_X0_overtakes_22
theorem ft_X0_overtakes_23 : F_X0_overtakes 23 = J_callV 3 S_X3_trait 2 26 := ftl_X0_overtakes_23
theorem ft_X0_overtakes_26 : F_X0_overtakes 26 = J_aload 0 27 := ftl_X0_overtakes_26
theorem ft_X0_overtakes_27 : F_X0_overtakes 27 = J_getfield 0 0 30 := ftl_X0_overtakes_27
theorem ft_X0_overtakes_30 : F_X0_overtakes 30 = J_iload 5 32 := ftl_X0_overtakes_30
theorem ft_X0_overtakes_32 : F_X0_overtakes 32 = J_iconst 2 33 := ftl_X0_overtakes_32
theorem ft_X0_overtakes_33 : F_X0_overtakes 33 = J_callV 3 S_X3_trait 2 36 := ftl_X0_overtakes_33
theorem ft_X0_overtakes_36 : F_X0_overtakes 36 = J_isub 37 := ftl_X0_overtakes_36
theorem ft_X0_overtakes_37 : F_X0_overtakes 37 = J_istore 6 39 := ftl_X0_overtakes_37
theorem ft_X0_overtakes_39 : F_X0_overtakes 39 = J_iload 6 41 := ftl_X0_overtakes_39
theorem ft_X0_overtakes_41 : F_X0_overtakes 41 = J_ifgt 64 44 := ftl_X0_overtakes_41
theorem ft_X0_overtakes_44 : F_X0_overtakes 44 = J_iload 6 46 := ftl_X0_overtakes_44
theorem ft_X0_overtakes_46 : F_X0_overtakes 46 = J_ifne 68 49 := ftl_X0_overtakes_46
theorem ft_X0_overtakes_49 : F_X0_overtakes 49 = J_aload 1 50 := ftl_X0_overtakes_49
theorem ft_X0_overtakes_50 : F_X0_overtakes 50 = J_iload 4 52 := ftl_X0_overtakes_50
theorem ft_X0_overtakes_52 : F_X0_overtakes 52 = J_callV 4 S_X4_restOf 1 55 := ftl_X0_overtakes_52
theorem ft_X0_overtakes_55 : F_X0_overtakes 55 = J_aload 1 56 := ftl_X0_overtakes_55
theorem ft_X0_overtakes_56 : F_X0_overtakes 56 = J_iload 5 58 := ftl_X0_overtakes_56
theorem ft_X0_overtakes_58 : F_X0_overtakes 58 = J_callV 4 S_X4_restOf 1 61 := ftl_X0_overtakes_58
theorem ft_X0_overtakes_61 : F_X0_overtakes 61 = J_icle 68 64 := ftl_X0_overtakes_61
theorem ft_X0_overtakes_64 : F_X0_overtakes 64 = J_iconst 1 65 := ftl_X0_overtakes_64
theorem ft_X0_overtakes_65 : F_X0_overtakes 65 = J_goto 69 := ftl_X0_overtakes_65
theorem ft_X0_overtakes_68 : F_X0_overtakes 68 = J_iconst 0 69 := ftl_X0_overtakes_68
theorem ft_X0_overtakes_69 : F_X0_overtakes 69 = J_zreturn 0 0 := ftl_X0_overtakes_69
def S_X0_overtakes : jSp := fun nb vs mem Q => jcs vs ≤ 7 ∧ jrun F_X0_overtakes [] 80 Q (fun _ _ _ _ _ => False) 0 (jargs vs ++ [none, none, none]) [] mem (nb, 0, 0)
theorem ok_X0_overtakes : jMeets Y_X0_overtakes S_X0_overtakes := fun _ _ _ _ h => Ok.inl OK_X0_overtakes 80 [none, none, none] pn0 rfl h
theorem s_X0_overtakes {nb s : Nat} {C : Nat → Nat → Int32} {z : Nat → Int64} {p q : Int32} {Q : jQ} (h : jSt s 94) : S_X0_overtakes nb [.ref 6, .ref s, .int p, .int q] (memS 94 C z) Q = Q (some (.int (zb (overF (C 5) (C s) p q)))) (memS 94 C z) := by
  refine (eq_le rfl).trans ?_
  simp -implicitDefEqProofs only [jr_0, jr_1, jr_2, j_iconst, j_lconst, j_iload0, j_aload0, j_istore0, j_astore0, j_iinc0, j_iload1, j_aload1, j_istore1, j_astore1, j_iinc1, j_iload2, j_aload2, j_istore2, j_astore2, j_iinc2, j_iload3, j_aload3, j_istore3, j_astore3, j_iinc3, j_iload4, j_aload4, j_istore4, j_astore4, j_iinc4, j_iload5, j_aload5, j_istore5, j_astore5, j_iinc5, j_iload6, j_aload6, j_istore6, j_astore6, j_iinc6, j_iload7, j_aload7, j_istore7, j_astore7, j_iinc7, j_iload8, j_aload8, j_istore8, j_astore8, j_iinc8, j_iadd, j_isub, j_imul, j_iand, j_ior, j_ixor, j_ishl, j_ishr, j_iushr, j_idiv, j_irem, j_ineg, j_ladd, j_lmul, j_land, j_lor, j_lcmp, j_lushr, j_lshl, j_i2l, j_l2i, j_dupI, j_dupR, j_popI, j_dup2, j_ifeq, j_iceq, j_ifne, j_icne, j_iflt, j_iclt, j_ifge, j_icge, j_ifgt, j_icgt, j_ifle, j_icle, j_goto, j_tsw, j_sw0, j_sw1, j_ireturn, j_zreturn, j_lreturn, j_return, j_getfield, j_putI, j_putJ, j_putR, j_iaload, j_baload, j_iastore, j_bastore, j_aaload, j_q, j_aastore, j_acopy, j_mmin, j_mmax, j_mabs, j_objinit, j_new, j_newI, j_newQ, j_sld, j_slen, j_callV0, j_callI0, j_callS0, j_callV1, j_callI1, j_callS1, j_callV2, j_callI2, j_callS2, j_callV3, j_callS3, j_callV4, j_callS4, j_callV5, j_callS5, j_pushS, j_pushN, j_sh0, j_sh1, j_sh2, j_sh3, j_sh4, Int32.reduceAdd, Int32.reduceMul, Int32.reduceSub, Int32.reduceLT, Int32.reduceLE, eq_self, i32_10, i32_01, ne_eq, hrow_s, hrow_n, ne10, ne100, ne1000, ne7, ne4, ne14, ne9973, or_true, true_or, or_false, false_or, not_true_eq_false, not_false_eq_true, false_implies, implies_true, and_true, forall_const, true_implies, jargs_n, jargs_r, jargs_i, List.cons_append, List.nil_append, true_and, Nat.reduceEqDiff, reduceIte, ft_X0_overtakes_0, ft_X0_overtakes_1, ft_X0_overtakes_2, ft_X0_overtakes_3, ft_X0_overtakes_6, ft_X0_overtakes_8, ft_X0_overtakes_9, ft_X0_overtakes_10, ft_X0_overtakes_11, ft_X0_overtakes_14, ft_X0_overtakes_16, ft_X0_overtakes_17, ft_X0_overtakes_20, ft_X0_overtakes_22, ft_X0_overtakes_23, ft_X0_overtakes_26, ft_X0_overtakes_27, ft_X0_overtakes_30, ft_X0_overtakes_32, ft_X0_overtakes_33, ft_X0_overtakes_36, ft_X0_overtakes_37, ft_X0_overtakes_39, ft_X0_overtakes_41, ft_X0_overtakes_44, ft_X0_overtakes_46, ft_X0_overtakes_49, ft_X0_overtakes_50, ft_X0_overtakes_52, ft_X0_overtakes_55, ft_X0_overtakes_56, ft_X0_overtakes_58, ft_X0_overtakes_61, ft_X0_overtakes_64, ft_X0_overtakes_65, ft_X0_overtakes_68, ft_X0_overtakes_69, jrcv_st h, rc_3, fl_6_0, s_X4_get h, s_X3_trait jD94, s_X4_restOf h]
  unfold overF
  generalize traitF (C 5) (rget (C s) p 1) 2 - traitF (C 5) (rget (C s) q 1) 2 = a
  generalize (rrest (C s) (rget (C s) p 1) ≤ rrest (C s) (rget (C s) q 1)) = b
  by_cases h1 : 0 < a <;> by_cases h2 : a = 0 <;> by_cases h3 : b <;> simp [zb, h1, h2, h3]
def F_X0_mostFor_0 : Nat → jT := fun pc => (bif Nat.blt pc 6 then (bif Nat.blt pc 2 then (bif Nat.blt pc 1 then (bif Nat.beq pc 0 then J_aload 1 1 else jbad) else (bif Nat.beq pc 1 then J_iload 2 2 else jbad)) else (bif Nat.blt pc 3 then (bif Nat.beq pc 2 then J_iconst 1 3 else jbad) else (bif Nat.beq pc 3 then J_callV 4 S_X4_get 2 6 else jbad))) else (bif Nat.blt pc 9 then (bif Nat.blt pc 8 then (bif Nat.beq pc 6 then J_istore 4 8 else jbad) else (bif Nat.beq pc 8 then J_aload 0 9 else jbad)) else (bif Nat.blt pc 12 then (bif Nat.beq pc 9 then J_getfield 0 0 12 else jbad) else (bif Nat.beq pc 12 then J_iload 4 14 else jbad))))
theorem ftl_X0_mostFor_0 : F_X0_mostFor_0 0 = J_aload 1 1 := rfl
theorem ftl_X0_mostFor_1 : F_X0_mostFor_0 1 = J_iload 2 2 := rfl
theorem ftl_X0_mostFor_2 : F_X0_mostFor_0 2 = J_iconst 1 3 := rfl
theorem ftl_X0_mostFor_3 : F_X0_mostFor_0 3 = J_callV 4 S_X4_get 2 6 := rfl
theorem ftl_X0_mostFor_6 : F_X0_mostFor_0 6 = J_istore 4 8 := rfl
theorem ftl_X0_mostFor_8 : F_X0_mostFor_0 8 = J_aload 0 9 := rfl
theorem ftl_X0_mostFor_9 : F_X0_mostFor_0 9 = J_getfield 0 0 12 := rfl
theorem ftl_X0_mostFor_12 : F_X0_mostFor_0 12 = J_iload 4 14 := rfl
theorem F_X0_mostFor_0_ok : jOK Y_X0_mostFor none (F_X0_mostFor_0) := (jOK_node (jOK_node (jOK_node (jOK_leaf (sn_aload_n dX0_mostFor_0 rfl rfl)) (jOK_leaf (sn_iload_n dX0_mostFor_1 rfl rfl))) (jOK_node (jOK_leaf (sn_iconst dX0_mostFor_2 rfl rfl)) (jOK_leaf (sn_callV (Y' := Y_X4_get) ok_X4_get dX0_mostFor_3 rfl rfl rfl tw_306 tw_267 tw_268 tw_5 jc_X4_get rfl ⟨by decide, by decide, rfl⟩ ⟨by decide, by decide⟩)))) (jOK_node (jOK_node (jOK_leaf (sn_istore dX0_mostFor_6 rfl (by decide))) (jOK_leaf (sn_aload_n dX0_mostFor_8 rfl rfl))) (jOK_node (jOK_leaf (sn_getfield dX0_mostFor_9 rfl rfl (by decide) tw_73 jin0)) (jOK_leaf (sn_iload dX0_mostFor_12 rfl)))))
def F_X0_mostFor_14 : Nat → jT := fun pc => (bif Nat.blt pc 22 then (bif Nat.blt pc 18 then (bif Nat.blt pc 15 then (bif Nat.beq pc 14 then J_iconst 1 15 else jbad) else (bif Nat.beq pc 15 then J_callV 3 S_X3_trait 2 18 else jbad)) else (bif Nat.blt pc 19 then (bif Nat.beq pc 18 then J_aload 0 19 else jbad) else (bif Nat.beq pc 19 then J_getfield 0 0 22 else jbad))) else (bif Nat.blt pc 26 then (bif Nat.blt pc 23 then (bif Nat.beq pc 22 then J_iload 2 23 else jbad) else (bif Nat.beq pc 23 then J_callV 3 S_X3_ampsOf 1 26 else jbad)) else (bif Nat.blt pc 29 then (bif Nat.beq pc 26 then J_mmin 29 else jbad) else (bif Nat.blt pc 31 then (bif Nat.beq pc 29 then J_istore 5 31 else jbad) else (bif Nat.beq pc 31 then J_iload 5 33 else jbad)))))
theorem ftl_X0_mostFor_14 : F_X0_mostFor_14 14 = J_iconst 1 15 := rfl
theorem ftl_X0_mostFor_15 : F_X0_mostFor_14 15 = J_callV 3 S_X3_trait 2 18 := rfl
theorem ftl_X0_mostFor_18 : F_X0_mostFor_14 18 = J_aload 0 19 := rfl
theorem ftl_X0_mostFor_19 : F_X0_mostFor_14 19 = J_getfield 0 0 22 := rfl
theorem ftl_X0_mostFor_22 : F_X0_mostFor_14 22 = J_iload 2 23 := rfl
theorem ftl_X0_mostFor_23 : F_X0_mostFor_14 23 = J_callV 3 S_X3_ampsOf 1 26 := rfl
theorem ftl_X0_mostFor_26 : F_X0_mostFor_14 26 = J_mmin 29 := rfl
theorem ftl_X0_mostFor_29 : F_X0_mostFor_14 29 = J_istore 5 31 := rfl
theorem ftl_X0_mostFor_31 : F_X0_mostFor_14 31 = J_iload 5 33 := rfl
theorem F_X0_mostFor_14_ok : jOK Y_X0_mostFor none (F_X0_mostFor_14) := (jOK_node (jOK_node (jOK_node (jOK_leaf (sn_iconst dX0_mostFor_14 rfl rfl)) (jOK_leaf (sn_callV (Y' := Y_X3_trait) ok_X3_trait dX0_mostFor_15 rfl rfl rfl tw_314 tw_163 tw_164 tw_3 jc_X3_trait rfl ⟨by decide, by decide, rfl⟩ ⟨by decide, by decide⟩))) (jOK_node (jOK_leaf (sn_aload_n dX0_mostFor_18 rfl rfl)) (jOK_leaf (sn_getfield dX0_mostFor_19 rfl rfl (by decide) tw_73 jin0)))) (jOK_node (jOK_node (jOK_leaf (sn_iload_n dX0_mostFor_22 rfl rfl)) (jOK_leaf (sn_callV (Y' := Y_X3_ampsOf) ok_X3_ampsOf dX0_mostFor_23 rfl rfl rfl tw_375 tw_291 tw_292 tw_3 jc_X3_ampsOf rfl ⟨by decide, by decide, rfl⟩ ⟨by decide, by decide⟩))) (jOK_node (jOK_leaf (sn_mmin dX0_mostFor_26 rfl tw_376 tw_377 tw_10 tw_378 ⟨by decide, by decide⟩)) (jOK_node (jOK_leaf (sn_istore dX0_mostFor_29 rfl (by decide))) (jOK_leaf (sn_iload dX0_mostFor_31 rfl))))))
def F_X0_mostFor_0_31 : Nat → jT := fun pc => bif Nat.blt pc 14 then F_X0_mostFor_0 pc else F_X0_mostFor_14 pc
theorem F_X0_mostFor_0_31_ok : jOK Y_X0_mostFor none (F_X0_mostFor_0_31) := jOK_node (F_X0_mostFor_0_ok) (F_X0_mostFor_14_ok)
def F_X0_mostFor_33 : Nat → jT := fun pc => (bif Nat.blt pc 42 then (bif Nat.blt pc 36 then (bif Nat.blt pc 34 then (bif Nat.beq pc 33 then J_aload 1 34 else jbad) else (bif Nat.beq pc 34 then J_iload 4 36 else jbad)) else (bif Nat.blt pc 39 then (bif Nat.beq pc 36 then J_callV 4 S_X4_restOf 1 39 else jbad) else (bif Nat.beq pc 39 then J_mmin 42 else jbad))) else (bif Nat.blt pc 45 then (bif Nat.blt pc 44 then (bif Nat.beq pc 42 then J_istore 5 44 else jbad) else (bif Nat.beq pc 44 then J_aload 0 45 else jbad)) else (bif Nat.blt pc 46 then (bif Nat.beq pc 45 then J_aload 1 46 else jbad) else (bif Nat.blt pc 47 then (bif Nat.beq pc 46 then J_iload 2 47 else jbad) else (bif Nat.beq pc 47 then J_iload 3 48 else jbad)))))
theorem ftl_X0_mostFor_33 : F_X0_mostFor_33 33 = J_aload 1 34 := rfl
theorem ftl_X0_mostFor_34 : F_X0_mostFor_33 34 = J_iload 4 36 := rfl
theorem ftl_X0_mostFor_36 : F_X0_mostFor_33 36 = J_callV 4 S_X4_restOf 1 39 := rfl
theorem ftl_X0_mostFor_39 : F_X0_mostFor_33 39 = J_mmin 42 := rfl
theorem ftl_X0_mostFor_42 : F_X0_mostFor_33 42 = J_istore 5 44 := rfl
theorem ftl_X0_mostFor_44 : F_X0_mostFor_33 44 = J_aload 0 45 := rfl
theorem ftl_X0_mostFor_45 : F_X0_mostFor_33 45 = J_aload 1 46 := rfl
theorem ftl_X0_mostFor_46 : F_X0_mostFor_33 46 = J_iload 2 47 := rfl
theorem ftl_X0_mostFor_47 : F_X0_mostFor_33 47 = J_iload 3 48 := rfl
theorem F_X0_mostFor_33_ok : jOK Y_X0_mostFor none (F_X0_mostFor_33) := (jOK_node (jOK_node (jOK_node (jOK_leaf (sn_aload_n dX0_mostFor_33 rfl rfl)) (jOK_leaf (sn_iload dX0_mostFor_34 rfl))) (jOK_node (jOK_leaf (sn_callV (Y' := Y_X4_restOf) ok_X4_restOf dX0_mostFor_36 rfl rfl rfl tw_315 tw_279 tw_280 tw_5 jc_X4_restOf rfl ⟨by decide, by decide, rfl⟩ ⟨by decide, by decide⟩)) (jOK_leaf (sn_mmin dX0_mostFor_39 rfl tw_376 tw_377 tw_10 tw_378 ⟨by decide, by decide⟩)))) (jOK_node (jOK_node (jOK_leaf (sn_istore dX0_mostFor_42 rfl (by decide))) (jOK_leaf (sn_aload_n dX0_mostFor_44 rfl rfl))) (jOK_node (jOK_leaf (sn_aload_n dX0_mostFor_45 rfl rfl)) (jOK_node (jOK_leaf (sn_iload_n dX0_mostFor_46 rfl rfl)) (jOK_leaf (sn_iload_n dX0_mostFor_47 rfl rfl))))))
def F_X0_mostFor_48 : Nat → jT := fun pc => (bif Nat.blt pc 57 then (bif Nat.blt pc 52 then (bif Nat.blt pc 51 then (bif Nat.beq pc 48 then J_callV 0 S_X0_kindAt 3 51 else jbad) else (bif Nat.beq pc 51 then J_iconst 2 52 else jbad)) else (bif Nat.blt pc 55 then (bif Nat.beq pc 52 then J_icne 64 55 else jbad) else (bif Nat.beq pc 55 then J_iload 5 57 else jbad))) else (bif Nat.blt pc 61 then (bif Nat.blt pc 58 then (bif Nat.beq pc 57 then J_iconst 2 58 else jbad) else (bif Nat.beq pc 58 then J_mmin 61 else jbad)) else (bif Nat.blt pc 64 then (bif Nat.beq pc 61 then J_goto 66 else jbad) else (bif Nat.blt pc 66 then (bif Nat.beq pc 64 then J_iload 5 66 else jbad) else (bif Nat.beq pc 66 then J_ireturn 0 0 else jbad)))))
theorem ftl_X0_mostFor_48 : F_X0_mostFor_48 48 = J_callV 0 S_X0_kindAt 3 51 := rfl
theorem ftl_X0_mostFor_51 : F_X0_mostFor_48 51 = J_iconst 2 52 := rfl
theorem ftl_X0_mostFor_52 : F_X0_mostFor_48 52 = J_icne 64 55 := rfl
theorem ftl_X0_mostFor_55 : F_X0_mostFor_48 55 = J_iload 5 57 := rfl
theorem ftl_X0_mostFor_57 : F_X0_mostFor_48 57 = J_iconst 2 58 := rfl
theorem ftl_X0_mostFor_58 : F_X0_mostFor_48 58 = J_mmin 61 := rfl
theorem ftl_X0_mostFor_61 : F_X0_mostFor_48 61 = J_goto 66 := rfl
theorem ftl_X0_mostFor_64 : F_X0_mostFor_48 64 = J_iload 5 66 := rfl
theorem ftl_X0_mostFor_66 : F_X0_mostFor_48 66 = J_ireturn 0 0 := rfl
theorem F_X0_mostFor_48_ok : jOK Y_X0_mostFor none (F_X0_mostFor_48) := (jOK_node (jOK_node (jOK_node (jOK_leaf (sn_callV (Y' := Y_X0_kindAt) ok_X0_kindAt dX0_mostFor_48 rfl rfl rfl tw_354 tw_356 tp_9 tw_4 jc_X0_kindAt rfl ⟨by decide, by decide, rfl⟩ ⟨by decide, by decide⟩)) (jOK_leaf (sn_iconst dX0_mostFor_51 rfl rfl))) (jOK_node (jOK_leaf (sn_icne dX0_mostFor_52 rfl rfl)) (jOK_leaf (sn_iload dX0_mostFor_55 rfl)))) (jOK_node (jOK_node (jOK_leaf (sn_iconst dX0_mostFor_57 rfl rfl)) (jOK_leaf (sn_mmin dX0_mostFor_58 rfl tw_376 tw_377 tw_10 tw_378 ⟨by decide, by decide⟩))) (jOK_node (jOK_leaf (sn_goto dX0_mostFor_61 rfl)) (jOK_node (jOK_leaf (sn_iload dX0_mostFor_64 rfl)) (jOK_leaf (sn_ireturn dX0_mostFor_66 rfl rfl))))))
def F_X0_mostFor_33_66 : Nat → jT := fun pc => bif Nat.blt pc 48 then F_X0_mostFor_33 pc else F_X0_mostFor_48 pc
theorem F_X0_mostFor_33_66_ok : jOK Y_X0_mostFor none (F_X0_mostFor_33_66) := jOK_node (F_X0_mostFor_33_ok) (F_X0_mostFor_48_ok)
def F_X0_mostFor_0_66 : Nat → jT := fun pc => bif Nat.blt pc 33 then F_X0_mostFor_0_31 pc else F_X0_mostFor_33_66 pc
theorem F_X0_mostFor_0_66_ok : jOK Y_X0_mostFor none (F_X0_mostFor_0_66) := jOK_node (F_X0_mostFor_0_31_ok) (F_X0_mostFor_33_66_ok)
def F_X0_mostFor : Nat → jT := F_X0_mostFor_0_66
theorem OK_X0_mostFor : jOK Y_X0_mostFor none (F_X0_mostFor) := F_X0_mostFor_0_66_ok
theorem ft_X0_mostFor_0 : F_X0_mostFor 0 = J_aload 1 1 := ftl_X0_mostFor_0
theorem ft_X0_mostFor_1 : F_X0_mostFor 1 = J_iload 2 2 := ftl_X0_mostFor_1
theorem ft_X0_mostFor_2 : F_X0_mostFor 2 = J_iconst 1 3 := ftl_X0_mostFor_2
theorem ft_X0_mostFor_3 : F_X0_mostFor 3 = J_callV 4 S_X4_get 2 6 := ftl_X0_mostFor_3
theorem ft_X0_mostFor_6 : F_X0_mostFor 6 = J_istore 4 8 := ftl_X0_mostFor_6
theorem ft_X0_mostFor_8 : F_X0_mostFor 8 = J_aload 0 9 := ftl_X0_mostFor_8
theorem ft_X0_mostFor_9 : F_X0_mostFor 9 = J_getfield 0 0 12 := ftl_X0_mostFor_9
theorem ft_X0_mostFor_12 : F_X0_mostFor 12 = J_iload 4 14 := ftl_X0_mostFor_12
theorem ft_X0_mostFor_14 : F_X0_mostFor 14 = J_iconst 1 15 := ftl_X0_mostFor_14
theorem ft_X0_mostFor_15 : F_X0_mostFor 15 = J_callV 3 S_X3_trait 2 18 := ftl_X0_mostFor_15
theorem ft_X0_mostFor_18 : F_X0_mostFor 18 = J_aload 0 19 := ftl_X0_mostFor_18
theorem ft_X0_mostFor_19 : F_X0_mostFor 19 = J_getfield 0 0 22 := ftl_X0_mostFor_19
theorem ft_X0_mostFor_22 : F_X0_mostFor 22 = J_iload 2 23 := ftl_X0_mostFor_22
theorem ft_X0_mostFor_23 : F_X0_mostFor 23 = J_callV 3 S_X3_ampsOf 1 26 := ftl_X0_mostFor_23
theorem ft_X0_mostFor_26 : F_X0_mostFor 26 = J_mmin 29 := ftl_X0_mostFor_26
theorem ft_X0_mostFor_29 : F_X0_mostFor 29 = J_istore 5 31 := ftl_X0_mostFor_29
theorem ft_X0_mostFor_31 : F_X0_mostFor 31 = J_iload 5 33 := ftl_X0_mostFor_31
theorem ft_X0_mostFor_33 : F_X0_mostFor 33 = J_aload 1 34 := ftl_X0_mostFor_33
theorem ft_X0_mostFor_34 : F_X0_mostFor 34 = J_iload 4 36 := ftl_X0_mostFor_34
theorem ft_X0_mostFor_36 : F_X0_mostFor 36 = J_callV 4 S_X4_restOf 1 39 := ftl_X0_mostFor_36
theorem ft_X0_mostFor_39 : F_X0_mostFor 39 = J_mmin 42 := ftl_X0_mostFor_39
theorem ft_X0_mostFor_42 : F_X0_mostFor 42 = J_istore 5 44 := ftl_X0_mostFor_42
theorem ft_X0_mostFor_44 : F_X0_mostFor 44 = J_aload 0 45 := ftl_X0_mostFor_44
theorem ft_X0_mostFor_45 : F_X0_mostFor 45 = J_aload 1 46 := ftl_X0_mostFor_45
theorem ft_X0_mostFor_46 : F_X0_mostFor 46 = J_iload 2 47 := ftl_X0_mostFor_46
theorem ft_X0_mostFor_47 : F_X0_mostFor 47 = J_iload 3 48 := ftl_X0_mostFor_47
theorem ft_X0_mostFor_48 : F_X0_mostFor 48 = J_callV 0 S_X0_kindAt 3 51 := ftl_X0_mostFor_48
theorem ft_X0_mostFor_51 : F_X0_mostFor 51 = J_iconst 2 52 := ftl_X0_mostFor_51
theorem ft_X0_mostFor_52 : F_X0_mostFor 52 = J_icne 64 55 := ftl_X0_mostFor_52
theorem ft_X0_mostFor_55 : F_X0_mostFor 55 = J_iload 5 57 := ftl_X0_mostFor_55
theorem ft_X0_mostFor_57 : F_X0_mostFor 57 = J_iconst 2 58 := ftl_X0_mostFor_57
theorem ft_X0_mostFor_58 : F_X0_mostFor 58 = J_mmin 61 := ftl_X0_mostFor_58
theorem ft_X0_mostFor_61 : F_X0_mostFor 61 = J_goto 66 := ftl_X0_mostFor_61
theorem ft_X0_mostFor_64 : F_X0_mostFor 64 = J_iload 5 66 := ftl_X0_mostFor_64
theorem ft_X0_mostFor_66 : F_X0_mostFor 66 = J_ireturn 0 0 := ftl_X0_mostFor_66
def S_X0_mostFor : jSp := fun nb vs mem Q => jcs vs ≤ 6 ∧ jrun F_X0_mostFor [] 80 Q (fun _ _ _ _ _ => False) 0 (jargs vs ++ [none, none]) [] mem (nb, 0, 0)
theorem ok_X0_mostFor : jMeets Y_X0_mostFor S_X0_mostFor := fun _ _ _ _ h => Ok.inl OK_X0_mostFor 80 [none, none] pn0 rfl h
theorem s_X0_mostFor {nb s : Nat} {C : Nat → Nat → Int32} {z : Nat → Int64} {p l : Int32} {Q : jQ} (h : jSt s 94) : S_X0_mostFor nb [.ref 6, .ref s, .int p, .int l] (memS 94 C z) Q = Q (some (.int (mostF (C 5) (C 4) (C s) p l))) (memS 94 C z) := by
  refine (eq_le rfl).trans ?_
  simp -implicitDefEqProofs only [jr_0, jr_1, jr_2, j_iconst, j_lconst, j_iload0, j_aload0, j_istore0, j_astore0, j_iinc0, j_iload1, j_aload1, j_istore1, j_astore1, j_iinc1, j_iload2, j_aload2, j_istore2, j_astore2, j_iinc2, j_iload3, j_aload3, j_istore3, j_astore3, j_iinc3, j_iload4, j_aload4, j_istore4, j_astore4, j_iinc4, j_iload5, j_aload5, j_istore5, j_astore5, j_iinc5, j_iload6, j_aload6, j_istore6, j_astore6, j_iinc6, j_iload7, j_aload7, j_istore7, j_astore7, j_iinc7, j_iload8, j_aload8, j_istore8, j_astore8, j_iinc8, j_iadd, j_isub, j_imul, j_iand, j_ior, j_ixor, j_ishl, j_ishr, j_iushr, j_idiv, j_irem, j_ineg, j_ladd, j_lmul, j_land, j_lor, j_lcmp, j_lushr, j_lshl, j_i2l, j_l2i, j_dupI, j_dupR, j_popI, j_dup2, j_ifeq, j_iceq, j_ifne, j_icne, j_iflt, j_iclt, j_ifge, j_icge, j_ifgt, j_icgt, j_ifle, j_icle, j_goto, j_tsw, j_sw0, j_sw1, j_ireturn, j_zreturn, j_lreturn, j_return, j_getfield, j_putI, j_putJ, j_putR, j_iaload, j_baload, j_iastore, j_bastore, j_aaload, j_q, j_aastore, j_acopy, j_mmin, j_mmax, j_mabs, j_objinit, j_new, j_newI, j_newQ, j_sld, j_slen, j_callV0, j_callI0, j_callS0, j_callV1, j_callI1, j_callS1, j_callV2, j_callI2, j_callS2, j_callV3, j_callS3, j_callV4, j_callS4, j_callV5, j_callS5, j_pushS, j_pushN, j_sh0, j_sh1, j_sh2, j_sh3, j_sh4, Int32.reduceAdd, Int32.reduceMul, Int32.reduceSub, Int32.reduceLT, Int32.reduceLE, eq_self, i32_10, i32_01, ne_eq, hrow_s, hrow_n, ne10, ne100, ne1000, ne7, ne4, ne14, ne9973, or_true, true_or, or_false, false_or, not_true_eq_false, not_false_eq_true, false_implies, implies_true, and_true, forall_const, true_implies, jargs_n, jargs_r, jargs_i, List.cons_append, List.nil_append, true_and, Nat.reduceEqDiff, reduceIte, ft_X0_mostFor_0, ft_X0_mostFor_1, ft_X0_mostFor_2, ft_X0_mostFor_3, ft_X0_mostFor_6, ft_X0_mostFor_8, ft_X0_mostFor_9, ft_X0_mostFor_12, ft_X0_mostFor_14, ft_X0_mostFor_15, ft_X0_mostFor_18, ft_X0_mostFor_19, ft_X0_mostFor_22, ft_X0_mostFor_23, ft_X0_mostFor_26, ft_X0_mostFor_29, ft_X0_mostFor_31, ft_X0_mostFor_33, ft_X0_mostFor_34, ft_X0_mostFor_36, ft_X0_mostFor_39, ft_X0_mostFor_42, ft_X0_mostFor_44, ft_X0_mostFor_45, ft_X0_mostFor_46, ft_X0_mostFor_47, ft_X0_mostFor_48, ft_X0_mostFor_51, ft_X0_mostFor_52, ft_X0_mostFor_55, ft_X0_mostFor_57, ft_X0_mostFor_58, ft_X0_mostFor_61, ft_X0_mostFor_64, ft_X0_mostFor_66, jrcv_st h, rc_3, rc_6, fl_6_0, s_X4_get h, s_X3_trait jD94, s_X3_ampsOf jD94, s_X4_restOf h, s_X0_kindAt h]
  unfold mostF
  by_cases h1 : kdF (C 5) (C s) p l = 2
  · rw [pick_t h1]
    simp [h1]
  · rw [pick_f h1]
    simp [h1]
def F_X0_growOlder_0 : Nat → jT := fun pc => (bif Nat.blt pc 10 then (bif Nat.blt pc 3 then (bif Nat.blt pc 1 then (bif Nat.beq pc 0 then J_aload 1 1 else jbad) else (bif Nat.blt pc 2 then (bif Nat.beq pc 1 then J_iload 2 2 else jbad) else (bif Nat.beq pc 2 then J_iconst 5 3 else jbad))) else (bif Nat.blt pc 7 then (bif Nat.blt pc 6 then (bif Nat.beq pc 3 then J_callV 4 S_X4_get 2 6 else jbad) else (bif Nat.beq pc 6 then J_iconst 1 7 else jbad)) else (bif Nat.blt pc 8 then (bif Nat.beq pc 7 then J_iadd 8 else jbad) else (bif Nat.beq pc 8 then J_istore 4 10 else jbad)))) else (bif Nat.blt pc 13 then (bif Nat.blt pc 11 then (bif Nat.beq pc 10 then J_aload 1 11 else jbad) else (bif Nat.blt pc 12 then (bif Nat.beq pc 11 then J_iload 2 12 else jbad) else (bif Nat.beq pc 12 then J_iconst 5 13 else jbad))) else (bif Nat.blt pc 18 then (bif Nat.blt pc 15 then (bif Nat.beq pc 13 then J_iload 4 15 else jbad) else (bif Nat.beq pc 15 then J_callV 4 S_X4_set 3 18 else jbad)) else (bif Nat.blt pc 20 then (bif Nat.beq pc 18 then J_iload 4 20 else jbad) else (bif Nat.beq pc 20 then J_iconst 2 21 else jbad)))))
theorem ftl_X0_growOlder_0 : F_X0_growOlder_0 0 = J_aload 1 1 := rfl
theorem ftl_X0_growOlder_1 : F_X0_growOlder_0 1 = J_iload 2 2 := rfl
theorem ftl_X0_growOlder_2 : F_X0_growOlder_0 2 = J_iconst 5 3 := rfl
theorem ftl_X0_growOlder_3 : F_X0_growOlder_0 3 = J_callV 4 S_X4_get 2 6 := rfl
theorem ftl_X0_growOlder_6 : F_X0_growOlder_0 6 = J_iconst 1 7 := rfl
theorem ftl_X0_growOlder_7 : F_X0_growOlder_0 7 = J_iadd 8 := rfl
theorem ftl_X0_growOlder_8 : F_X0_growOlder_0 8 = J_istore 4 10 := rfl
theorem ftl_X0_growOlder_10 : F_X0_growOlder_0 10 = J_aload 1 11 := rfl
theorem ftl_X0_growOlder_11 : F_X0_growOlder_0 11 = J_iload 2 12 := rfl
theorem ftl_X0_growOlder_12 : F_X0_growOlder_0 12 = J_iconst 5 13 := rfl
theorem ftl_X0_growOlder_13 : F_X0_growOlder_0 13 = J_iload 4 15 := rfl
theorem ftl_X0_growOlder_15 : F_X0_growOlder_0 15 = J_callV 4 S_X4_set 3 18 := rfl
theorem ftl_X0_growOlder_18 : F_X0_growOlder_0 18 = J_iload 4 20 := rfl
theorem ftl_X0_growOlder_20 : F_X0_growOlder_0 20 = J_iconst 2 21 := rfl
theorem F_X0_growOlder_0_ok : jOK Y_X0_growOlder none (F_X0_growOlder_0) := (jOK_node (jOK_node (jOK_node (jOK_leaf (sn_aload_n dX0_growOlder_0 rfl rfl)) (jOK_node (jOK_leaf (sn_iload_n dX0_growOlder_1 rfl rfl)) (jOK_leaf (sn_iconst dX0_growOlder_2 rfl rfl)))) (jOK_node (jOK_node (jOK_leaf (sn_callV (Y' := Y_X4_get) ok_X4_get dX0_growOlder_3 rfl rfl rfl tw_306 tw_267 tw_268 tw_5 jc_X4_get rfl ⟨by decide, by decide, rfl⟩ ⟨by decide, by decide⟩)) (jOK_leaf (sn_iconst dX0_growOlder_6 rfl rfl))) (jOK_node (jOK_leaf (sn_iadd dX0_growOlder_7 rfl)) (jOK_leaf (sn_istore dX0_growOlder_8 rfl (by decide)))))) (jOK_node (jOK_node (jOK_leaf (sn_aload_n dX0_growOlder_10 rfl rfl)) (jOK_node (jOK_leaf (sn_iload_n dX0_growOlder_11 rfl rfl)) (jOK_leaf (sn_iconst dX0_growOlder_12 rfl rfl)))) (jOK_node (jOK_node (jOK_leaf (sn_iload dX0_growOlder_13 rfl)) (jOK_leaf (sn_callV (Y' := Y_X4_set) ok_X4_set dX0_growOlder_15 rfl rfl rfl tw_358 tw_151 tw_152 tw_5 jc_X4_set rfl ⟨by decide, by decide, rfl⟩ ⟨by decide, by decide⟩))) (jOK_node (jOK_leaf (sn_iload dX0_growOlder_18 rfl)) (jOK_leaf (sn_iconst dX0_growOlder_20 rfl rfl))))))
def F_X0_growOlder_21 : Nat → jT := fun pc => (bif Nat.blt pc 32 then (bif Nat.blt pc 26 then (bif Nat.blt pc 24 then (bif Nat.beq pc 21 then J_iclt 42 24 else jbad) else (bif Nat.blt pc 25 then (bif Nat.beq pc 24 then J_aload 0 25 else jbad) else (bif Nat.beq pc 25 then J_aload 1 26 else jbad))) else (bif Nat.blt pc 28 then (bif Nat.blt pc 27 then (bif Nat.beq pc 26 then J_iload 2 27 else jbad) else (bif Nat.beq pc 27 then J_iload 3 28 else jbad)) else (bif Nat.blt pc 31 then (bif Nat.beq pc 28 then J_callV 0 S_X0_kindAt 3 31 else jbad) else (bif Nat.beq pc 31 then J_iconst 2 32 else jbad)))) else (bif Nat.blt pc 37 then (bif Nat.blt pc 35 then (bif Nat.beq pc 32 then J_icne 42 35 else jbad) else (bif Nat.blt pc 36 then (bif Nat.beq pc 35 then J_aload 1 36 else jbad) else (bif Nat.beq pc 36 then J_iload 2 37 else jbad))) else (bif Nat.blt pc 39 then (bif Nat.blt pc 38 then (bif Nat.beq pc 37 then J_iconst 2 38 else jbad) else (bif Nat.beq pc 38 then J_iconst 2 39 else jbad)) else (bif Nat.blt pc 42 then (bif Nat.beq pc 39 then J_callV 4 S_X4_set 3 42 else jbad) else (bif Nat.beq pc 42 then J_return 0 0 else jbad)))))
theorem ftl_X0_growOlder_21 : F_X0_growOlder_21 21 = J_iclt 42 24 := rfl
theorem ftl_X0_growOlder_24 : F_X0_growOlder_21 24 = J_aload 0 25 := rfl
theorem ftl_X0_growOlder_25 : F_X0_growOlder_21 25 = J_aload 1 26 := rfl
theorem ftl_X0_growOlder_26 : F_X0_growOlder_21 26 = J_iload 2 27 := rfl
theorem ftl_X0_growOlder_27 : F_X0_growOlder_21 27 = J_iload 3 28 := rfl
theorem ftl_X0_growOlder_28 : F_X0_growOlder_21 28 = J_callV 0 S_X0_kindAt 3 31 := rfl
theorem ftl_X0_growOlder_31 : F_X0_growOlder_21 31 = J_iconst 2 32 := rfl
theorem ftl_X0_growOlder_32 : F_X0_growOlder_21 32 = J_icne 42 35 := rfl
theorem ftl_X0_growOlder_35 : F_X0_growOlder_21 35 = J_aload 1 36 := rfl
theorem ftl_X0_growOlder_36 : F_X0_growOlder_21 36 = J_iload 2 37 := rfl
theorem ftl_X0_growOlder_37 : F_X0_growOlder_21 37 = J_iconst 2 38 := rfl
theorem ftl_X0_growOlder_38 : F_X0_growOlder_21 38 = J_iconst 2 39 := rfl
theorem ftl_X0_growOlder_39 : F_X0_growOlder_21 39 = J_callV 4 S_X4_set 3 42 := rfl
theorem ftl_X0_growOlder_42 : F_X0_growOlder_21 42 = J_return 0 0 := rfl
theorem F_X0_growOlder_21_ok : jOK Y_X0_growOlder none (F_X0_growOlder_21) := (jOK_node (jOK_node (jOK_node (jOK_leaf (sn_iclt dX0_growOlder_21 rfl rfl)) (jOK_node (jOK_leaf (sn_aload_n dX0_growOlder_24 rfl rfl)) (jOK_leaf (sn_aload_n dX0_growOlder_25 rfl rfl)))) (jOK_node (jOK_node (jOK_leaf (sn_iload_n dX0_growOlder_26 rfl rfl)) (jOK_leaf (sn_iload_n dX0_growOlder_27 rfl rfl))) (jOK_node (jOK_leaf (sn_callV (Y' := Y_X0_kindAt) ok_X0_kindAt dX0_growOlder_28 rfl rfl rfl tw_354 tw_356 tp_9 tw_4 jc_X0_kindAt rfl ⟨by decide, by decide, rfl⟩ ⟨by decide, by decide⟩)) (jOK_leaf (sn_iconst dX0_growOlder_31 rfl rfl))))) (jOK_node (jOK_node (jOK_leaf (sn_icne dX0_growOlder_32 rfl rfl)) (jOK_node (jOK_leaf (sn_aload_n dX0_growOlder_35 rfl rfl)) (jOK_leaf (sn_iload_n dX0_growOlder_36 rfl rfl)))) (jOK_node (jOK_node (jOK_leaf (sn_iconst dX0_growOlder_37 rfl rfl)) (jOK_leaf (sn_iconst dX0_growOlder_38 rfl rfl))) (jOK_node (jOK_leaf (sn_callV (Y' := Y_X4_set) ok_X4_set dX0_growOlder_39 rfl rfl rfl tw_358 tw_151 tw_152 tw_5 jc_X4_set rfl ⟨by decide, by decide, rfl⟩ ⟨by decide, by decide⟩)) (jOK_leaf (sn_return dX0_growOlder_42 rfl rfl))))))
def F_X0_growOlder_0_42 : Nat → jT := fun pc => bif Nat.blt pc 21 then F_X0_growOlder_0 pc else F_X0_growOlder_21 pc
theorem F_X0_growOlder_0_42_ok : jOK Y_X0_growOlder none (F_X0_growOlder_0_42) := jOK_node (F_X0_growOlder_0_ok) (F_X0_growOlder_21_ok)
def F_X0_growOlder : Nat → jT := F_X0_growOlder_0_42
theorem OK_X0_growOlder : jOK Y_X0_growOlder none (F_X0_growOlder) := F_X0_growOlder_0_42_ok
theorem ft_X0_growOlder_0 : F_X0_growOlder 0 = J_aload 1 1 := ftl_X0_growOlder_0
theorem ft_X0_growOlder_1 : F_X0_growOlder 1 = J_iload 2 2 := ftl_X0_growOlder_1
theorem ft_X0_growOlder_2 : F_X0_growOlder 2 = J_iconst 5 3 := ftl_X0_growOlder_2
theorem ft_X0_growOlder_3 : F_X0_growOlder 3 = J_callV 4 S_X4_get 2 6 := ftl_X0_growOlder_3
theorem ft_X0_growOlder_6 : F_X0_growOlder 6 = J_iconst 1 7 := ftl_X0_growOlder_6
theorem ft_X0_growOlder_7 : F_X0_growOlder 7 = J_iadd 8 := ftl_X0_growOlder_7
theorem ft_X0_growOlder_8 : F_X0_growOlder 8 = J_istore 4 10 := ftl_X0_growOlder_8
theorem ft_X0_growOlder_10 : F_X0_growOlder 10 = J_aload 1 11 := ftl_X0_growOlder_10
theorem ft_X0_growOlder_11 : F_X0_growOlder 11 = J_iload 2 12 := ftl_X0_growOlder_11
theorem ft_X0_growOlder_12 : F_X0_growOlder 12 = J_iconst 5 13 := ftl_X0_growOlder_12
theorem ft_X0_growOlder_13 : F_X0_growOlder 13 = J_iload 4 15 := ftl_X0_growOlder_13
theorem ft_X0_growOlder_15 : F_X0_growOlder 15 = J_callV 4 S_X4_set 3 18 := ftl_X0_growOlder_15
theorem ft_X0_growOlder_18 : F_X0_growOlder 18 = J_iload 4 20 := ftl_X0_growOlder_18
theorem ft_X0_growOlder_20 : F_X0_growOlder 20 = J_iconst 2 21 := ftl_X0_growOlder_20
theorem ft_X0_growOlder_21 : F_X0_growOlder 21 = J_iclt 42 24 := ftl_X0_growOlder_21
theorem ft_X0_growOlder_24 : F_X0_growOlder 24 = J_aload 0 25 := ftl_X0_growOlder_24
theorem ft_X0_growOlder_25 : F_X0_growOlder 25 = J_aload 1 26 := ftl_X0_growOlder_25
theorem ft_X0_growOlder_26 : F_X0_growOlder 26 = J_iload 2 27 := ftl_X0_growOlder_26
theorem ft_X0_growOlder_27 : F_X0_growOlder 27 = J_iload 3 28 := ftl_X0_growOlder_27
theorem ft_X0_growOlder_28 : F_X0_growOlder 28 = J_callV 0 S_X0_kindAt 3 31 := ftl_X0_growOlder_28
theorem ft_X0_growOlder_31 : F_X0_growOlder 31 = J_iconst 2 32 := ftl_X0_growOlder_31
theorem ft_X0_growOlder_32 : F_X0_growOlder 32 = J_icne 42 35 := ftl_X0_growOlder_32
theorem ft_X0_growOlder_35 : F_X0_growOlder 35 = J_aload 1 36 := ftl_X0_growOlder_35
theorem ft_X0_growOlder_36 : F_X0_growOlder 36 = J_iload 2 37 := ftl_X0_growOlder_36
theorem ft_X0_growOlder_37 : F_X0_growOlder 37 = J_iconst 2 38 := ftl_X0_growOlder_37
theorem ft_X0_growOlder_38 : F_X0_growOlder 38 = J_iconst 2 39 := ftl_X0_growOlder_38
theorem ft_X0_growOlder_39 : F_X0_growOlder 39 = J_callV 4 S_X4_set 3 42 := ftl_X0_growOlder_39
theorem ft_X0_growOlder_42 : F_X0_growOlder 42 = J_return 0 0 := ftl_X0_growOlder_42
def S_X0_growOlder : jSp := fun nb vs mem Q => jcs vs ≤ 5 ∧ jrun F_X0_growOlder [] 80 Q (fun _ _ _ _ _ => False) 0 (jargs vs ++ [none]) [] mem (nb, 0, 0)
theorem ok_X0_growOlder : jMeets Y_X0_growOlder S_X0_growOlder := fun _ _ _ _ h => Ok.inl OK_X0_growOlder 80 [none] pn0 rfl h
theorem s_X0_growOlder {nb s : Nat} {C : Nat → Nat → Int32} {z : Nat → Int64} {p l : Int32} {Q : jQ} (h : jSt s 94) : S_X0_growOlder nb [.ref 6, .ref s, .int p, .int l] (memS 94 C z) Q = Q none (memS 94 (hrow C s (growF (C 5) (C s) p l)) z) := by
  refine (eq_le rfl).trans ?_
  simp -implicitDefEqProofs only [jr_0, jr_1, jr_2, j_iconst, j_lconst, j_iload0, j_aload0, j_istore0, j_astore0, j_iinc0, j_iload1, j_aload1, j_istore1, j_astore1, j_iinc1, j_iload2, j_aload2, j_istore2, j_astore2, j_iinc2, j_iload3, j_aload3, j_istore3, j_astore3, j_iinc3, j_iload4, j_aload4, j_istore4, j_astore4, j_iinc4, j_iload5, j_aload5, j_istore5, j_astore5, j_iinc5, j_iload6, j_aload6, j_istore6, j_astore6, j_iinc6, j_iload7, j_aload7, j_istore7, j_astore7, j_iinc7, j_iload8, j_aload8, j_istore8, j_astore8, j_iinc8, j_iadd, j_isub, j_imul, j_iand, j_ior, j_ixor, j_ishl, j_ishr, j_iushr, j_idiv, j_irem, j_ineg, j_ladd, j_lmul, j_land, j_lor, j_lcmp, j_lushr, j_lshl, j_i2l, j_l2i, j_dupI, j_dupR, j_popI, j_dup2, j_ifeq, j_iceq, j_ifne, j_icne, j_iflt, j_iclt, j_ifge, j_icge, j_ifgt, j_icgt, j_ifle, j_icle, j_goto, j_tsw, j_sw0, j_sw1, j_ireturn, j_zreturn, j_lreturn, j_return, j_getfield, j_putI, j_putJ, j_putR, j_iaload, j_baload, j_iastore, j_bastore, j_aaload, j_q, j_aastore, j_acopy, j_mmin, j_mmax, j_mabs, j_objinit, j_new, j_newI, j_newQ, j_sld, j_slen, j_callV0, j_callI0, j_callS0, j_callV1, j_callI1, j_callS1, j_callV2, j_callI2, j_callS2, j_callV3, j_callS3, j_callV4, j_callS4, j_callV5, j_callS5, j_pushS, j_pushN, j_sh0, j_sh1, j_sh2, j_sh3, j_sh4, Int32.reduceAdd, Int32.reduceMul, Int32.reduceSub, Int32.reduceLT, Int32.reduceLE, eq_self, i32_10, i32_01, ne_eq, hrow_s, hrow_n, ne10, ne100, ne1000, ne7, ne4, ne14, ne9973, or_true, true_or, or_false, false_or, not_true_eq_false, not_false_eq_true, false_implies, implies_true, and_true, forall_const, true_implies, jargs_n, jargs_r, jargs_i, List.cons_append, List.nil_append, true_and, Nat.reduceEqDiff, reduceIte, ft_X0_growOlder_0, ft_X0_growOlder_1, ft_X0_growOlder_2, ft_X0_growOlder_3, ft_X0_growOlder_6, ft_X0_growOlder_7, ft_X0_growOlder_8, ft_X0_growOlder_10, ft_X0_growOlder_11, ft_X0_growOlder_12, ft_X0_growOlder_13, ft_X0_growOlder_15, ft_X0_growOlder_18, ft_X0_growOlder_20, ft_X0_growOlder_21, ft_X0_growOlder_24, ft_X0_growOlder_25, ft_X0_growOlder_26, ft_X0_growOlder_27, ft_X0_growOlder_28, ft_X0_growOlder_31, ft_X0_growOlder_32, ft_X0_growOlder_35, ft_X0_growOlder_36, ft_X0_growOlder_37, ft_X0_growOlder_38, ft_X0_growOlder_39, ft_X0_growOlder_42, jrcv_st h, rc_3, rc_6, fl_6_0, s_X4_get h, s_X4_set h, s_X0_kindAt h, hrow_hrow, (jst_ne h).2.2.1]
  unfold growF
  by_cases h1 : rget (C s) p 5 + 1 < 2 <;> by_cases h2 : kdF (C 5) (rset (C s) p 5 (rget (C s) p 5 + 1)) p l = 2 <;> simp [pick, h1, h2]
def F_X0_meter_0 : Nat → jT := fun pc => (bif Nat.blt pc 6 then (bif Nat.blt pc 2 then (bif Nat.blt pc 1 then (bif Nat.beq pc 0 then J_aload 1 1 else jbad) else (bif Nat.beq pc 1 then J_iload 2 2 else jbad)) else (bif Nat.blt pc 3 then (bif Nat.beq pc 2 then J_iconst 1 3 else jbad) else (bif Nat.beq pc 3 then J_callV 4 S_X4_get 2 6 else jbad))) else (bif Nat.blt pc 9 then (bif Nat.blt pc 8 then (bif Nat.beq pc 6 then J_istore 4 8 else jbad) else (bif Nat.beq pc 8 then J_aload 1 9 else jbad)) else (bif Nat.blt pc 11 then (bif Nat.beq pc 9 then J_iload 4 11 else jbad) else (bif Nat.blt pc 12 then (bif Nat.beq pc 11 then J_iconst 0 12 else jbad) else (bif Nat.beq pc 12 then J_aload 1 13 else jbad)))))
theorem ftl_X0_meter_0 : F_X0_meter_0 0 = J_aload 1 1 := rfl
theorem ftl_X0_meter_1 : F_X0_meter_0 1 = J_iload 2 2 := rfl
theorem ftl_X0_meter_2 : F_X0_meter_0 2 = J_iconst 1 3 := rfl
theorem ftl_X0_meter_3 : F_X0_meter_0 3 = J_callV 4 S_X4_get 2 6 := rfl
theorem ftl_X0_meter_6 : F_X0_meter_0 6 = J_istore 4 8 := rfl
theorem ftl_X0_meter_8 : F_X0_meter_0 8 = J_aload 1 9 := rfl
theorem ftl_X0_meter_9 : F_X0_meter_0 9 = J_iload 4 11 := rfl
theorem ftl_X0_meter_11 : F_X0_meter_0 11 = J_iconst 0 12 := rfl
theorem ftl_X0_meter_12 : F_X0_meter_0 12 = J_aload 1 13 := rfl
theorem F_X0_meter_0_ok : jOK Y_X0_meter none (F_X0_meter_0) := (jOK_node (jOK_node (jOK_node (jOK_leaf (sn_aload_n dX0_meter_0 rfl rfl)) (jOK_leaf (sn_iload_n dX0_meter_1 rfl rfl))) (jOK_node (jOK_leaf (sn_iconst dX0_meter_2 rfl rfl)) (jOK_leaf (sn_callV (Y' := Y_X4_get) ok_X4_get dX0_meter_3 rfl rfl rfl tw_306 tw_267 tw_268 tw_5 jc_X4_get rfl ⟨by decide, by decide, rfl⟩ ⟨by decide, by decide⟩)))) (jOK_node (jOK_node (jOK_leaf (sn_istore dX0_meter_6 rfl (by decide))) (jOK_leaf (sn_aload_n dX0_meter_8 rfl rfl))) (jOK_node (jOK_leaf (sn_iload dX0_meter_9 rfl)) (jOK_node (jOK_leaf (sn_iconst dX0_meter_11 rfl rfl)) (jOK_leaf (sn_aload_n dX0_meter_12 rfl rfl))))))
def F_X0_meter_13 : Nat → jT := fun pc => (bif Nat.blt pc 20 then (bif Nat.blt pc 18 then (bif Nat.blt pc 15 then (bif Nat.beq pc 13 then J_iload 4 15 else jbad) else (bif Nat.beq pc 15 then J_callV 4 S_X4_restOf 1 18 else jbad)) else (bif Nat.blt pc 19 then (bif Nat.beq pc 18 then J_iload 3 19 else jbad) else (bif Nat.beq pc 19 then J_isub 20 else jbad))) else (bif Nat.blt pc 26 then (bif Nat.blt pc 23 then (bif Nat.beq pc 20 then J_mmax 23 else jbad) else (bif Nat.beq pc 23 then J_callV 4 S_X4_setRest 2 26 else jbad)) else (bif Nat.blt pc 27 then (bif Nat.beq pc 26 then J_aload 1 27 else jbad) else (bif Nat.blt pc 28 then (bif Nat.beq pc 27 then J_iload 2 28 else jbad) else (bif Nat.beq pc 28 then J_iconst 7 30 else jbad)))))
theorem ftl_X0_meter_13 : F_X0_meter_13 13 = J_iload 4 15 := rfl
theorem ftl_X0_meter_15 : F_X0_meter_13 15 = J_callV 4 S_X4_restOf 1 18 := rfl
theorem ftl_X0_meter_18 : F_X0_meter_13 18 = J_iload 3 19 := rfl
theorem ftl_X0_meter_19 : F_X0_meter_13 19 = J_isub 20 := rfl
theorem ftl_X0_meter_20 : F_X0_meter_13 20 = J_mmax 23 := rfl
theorem ftl_X0_meter_23 : F_X0_meter_13 23 = J_callV 4 S_X4_setRest 2 26 := rfl
theorem ftl_X0_meter_26 : F_X0_meter_13 26 = J_aload 1 27 := rfl
theorem ftl_X0_meter_27 : F_X0_meter_13 27 = J_iload 2 28 := rfl
theorem ftl_X0_meter_28 : F_X0_meter_13 28 = J_iconst 7 30 := rfl
theorem F_X0_meter_13_ok : jOK Y_X0_meter none (F_X0_meter_13) := (jOK_node (jOK_node (jOK_node (jOK_leaf (sn_iload dX0_meter_13 rfl)) (jOK_leaf (sn_callV (Y' := Y_X4_restOf) ok_X4_restOf dX0_meter_15 rfl rfl rfl tw_315 tw_279 tw_280 tw_5 jc_X4_restOf rfl ⟨by decide, by decide, rfl⟩ ⟨by decide, by decide⟩))) (jOK_node (jOK_leaf (sn_iload_n dX0_meter_18 rfl rfl)) (jOK_leaf (sn_isub dX0_meter_19 rfl)))) (jOK_node (jOK_node (jOK_leaf (sn_mmax dX0_meter_20 rfl tw_387 tw_388 tw_10 tw_389 ⟨by decide, by decide⟩)) (jOK_leaf (sn_callV (Y' := Y_X4_setRest) ok_X4_setRest dX0_meter_23 rfl rfl rfl tw_390 tw_391 tw_392 tw_5 jc_X4_setRest rfl ⟨by decide, by decide, rfl⟩ ⟨by decide, by decide⟩))) (jOK_node (jOK_leaf (sn_aload_n dX0_meter_26 rfl rfl)) (jOK_node (jOK_leaf (sn_iload_n dX0_meter_27 rfl rfl)) (jOK_leaf (sn_bipush dX0_meter_28 rfl rfl))))))
def F_X0_meter_0_28 : Nat → jT := fun pc => bif Nat.blt pc 13 then F_X0_meter_0 pc else F_X0_meter_13 pc
theorem F_X0_meter_0_28_ok : jOK Y_X0_meter none (F_X0_meter_0_28) := jOK_node (F_X0_meter_0_ok) (F_X0_meter_13_ok)
def F_X0_meter_30 : Nat → jT := fun pc => (bif Nat.blt pc 37 then (bif Nat.blt pc 32 then (bif Nat.blt pc 31 then (bif Nat.beq pc 30 then J_aload 1 31 else jbad) else (bif Nat.beq pc 31 then J_iload 2 32 else jbad)) else (bif Nat.blt pc 34 then (bif Nat.beq pc 32 then J_iconst 7 34 else jbad) else (bif Nat.beq pc 34 then J_callV 4 S_X4_get 2 37 else jbad))) else (bif Nat.blt pc 39 then (bif Nat.blt pc 38 then (bif Nat.beq pc 37 then J_iload 3 38 else jbad) else (bif Nat.beq pc 38 then J_iadd 39 else jbad)) else (bif Nat.blt pc 42 then (bif Nat.beq pc 39 then J_callV 4 S_X4_set 3 42 else jbad) else (bif Nat.blt pc 43 then (bif Nat.beq pc 42 then J_aload 1 43 else jbad) else (bif Nat.beq pc 43 then J_iload 2 44 else jbad)))))
theorem ftl_X0_meter_30 : F_X0_meter_30 30 = J_aload 1 31 := rfl
theorem ftl_X0_meter_31 : F_X0_meter_30 31 = J_iload 2 32 := rfl
theorem ftl_X0_meter_32 : F_X0_meter_30 32 = J_iconst 7 34 := rfl
theorem ftl_X0_meter_34 : F_X0_meter_30 34 = J_callV 4 S_X4_get 2 37 := rfl
theorem ftl_X0_meter_37 : F_X0_meter_30 37 = J_iload 3 38 := rfl
theorem ftl_X0_meter_38 : F_X0_meter_30 38 = J_iadd 39 := rfl
theorem ftl_X0_meter_39 : F_X0_meter_30 39 = J_callV 4 S_X4_set 3 42 := rfl
theorem ftl_X0_meter_42 : F_X0_meter_30 42 = J_aload 1 43 := rfl
theorem ftl_X0_meter_43 : F_X0_meter_30 43 = J_iload 2 44 := rfl
theorem F_X0_meter_30_ok : jOK Y_X0_meter none (F_X0_meter_30) := (jOK_node (jOK_node (jOK_node (jOK_leaf (sn_aload_n dX0_meter_30 rfl rfl)) (jOK_leaf (sn_iload_n dX0_meter_31 rfl rfl))) (jOK_node (jOK_leaf (sn_bipush dX0_meter_32 rfl rfl)) (jOK_leaf (sn_callV (Y' := Y_X4_get) ok_X4_get dX0_meter_34 rfl rfl rfl tw_306 tw_267 tw_268 tw_5 jc_X4_get rfl ⟨by decide, by decide, rfl⟩ ⟨by decide, by decide⟩)))) (jOK_node (jOK_node (jOK_leaf (sn_iload_n dX0_meter_37 rfl rfl)) (jOK_leaf (sn_iadd dX0_meter_38 rfl))) (jOK_node (jOK_leaf (sn_callV (Y' := Y_X4_set) ok_X4_set dX0_meter_39 rfl rfl rfl tw_358 tw_151 tw_152 tw_5 jc_X4_set rfl ⟨by decide, by decide, rfl⟩ ⟨by decide, by decide⟩)) (jOK_node (jOK_leaf (sn_aload_n dX0_meter_42 rfl rfl)) (jOK_leaf (sn_iload_n dX0_meter_43 rfl rfl))))))
def F_X0_meter_44 : Nat → jT := fun pc => (bif Nat.blt pc 53 then (bif Nat.blt pc 47 then (bif Nat.blt pc 46 then (bif Nat.beq pc 44 then J_iconst 8 46 else jbad) else (bif Nat.beq pc 46 then J_aload 1 47 else jbad)) else (bif Nat.blt pc 48 then (bif Nat.beq pc 47 then J_iload 2 48 else jbad) else (bif Nat.blt pc 50 then (bif Nat.beq pc 48 then J_iconst 8 50 else jbad) else (bif Nat.beq pc 50 then J_callV 4 S_X4_get 2 53 else jbad)))) else (bif Nat.blt pc 55 then (bif Nat.blt pc 54 then (bif Nat.beq pc 53 then J_iload 2 54 else jbad) else (bif Nat.beq pc 54 then J_iload 3 55 else jbad)) else (bif Nat.blt pc 58 then (bif Nat.beq pc 55 then J_callS S_X6_nextSign 3 58 else jbad) else (bif Nat.blt pc 61 then (bif Nat.beq pc 58 then J_callV 4 S_X4_set 3 61 else jbad) else (bif Nat.beq pc 61 then J_return 0 0 else jbad)))))
theorem ftl_X0_meter_44 : F_X0_meter_44 44 = J_iconst 8 46 := rfl
theorem ftl_X0_meter_46 : F_X0_meter_44 46 = J_aload 1 47 := rfl
theorem ftl_X0_meter_47 : F_X0_meter_44 47 = J_iload 2 48 := rfl
theorem ftl_X0_meter_48 : F_X0_meter_44 48 = J_iconst 8 50 := rfl
theorem ftl_X0_meter_50 : F_X0_meter_44 50 = J_callV 4 S_X4_get 2 53 := rfl
theorem ftl_X0_meter_53 : F_X0_meter_44 53 = J_iload 2 54 := rfl
theorem ftl_X0_meter_54 : F_X0_meter_44 54 = J_iload 3 55 := rfl
theorem ftl_X0_meter_55 : F_X0_meter_44 55 = J_callS S_X6_nextSign 3 58 := rfl
theorem ftl_X0_meter_58 : F_X0_meter_44 58 = J_callV 4 S_X4_set 3 61 := rfl
theorem ftl_X0_meter_61 : F_X0_meter_44 61 = J_return 0 0 := rfl
theorem F_X0_meter_44_ok : jOK Y_X0_meter none (F_X0_meter_44) := (jOK_node (jOK_node (jOK_node (jOK_leaf (sn_bipush dX0_meter_44 rfl rfl)) (jOK_leaf (sn_aload_n dX0_meter_46 rfl rfl))) (jOK_node (jOK_leaf (sn_iload_n dX0_meter_47 rfl rfl)) (jOK_node (jOK_leaf (sn_bipush dX0_meter_48 rfl rfl)) (jOK_leaf (sn_callV (Y' := Y_X4_get) ok_X4_get dX0_meter_50 rfl rfl rfl tw_306 tw_267 tw_268 tw_5 jc_X4_get rfl ⟨by decide, by decide, rfl⟩ ⟨by decide, by decide⟩))))) (jOK_node (jOK_node (jOK_leaf (sn_iload_n dX0_meter_53 rfl rfl)) (jOK_leaf (sn_iload_n dX0_meter_54 rfl rfl))) (jOK_node (jOK_leaf (sn_callSN (Y' := Y_X6_nextSign) (host := "ChargePosts") ok_X6_nextSign dX0_meter_55 rfl rfl (List.mem_of_getElem? (i := 6) rfl) tw_395 tw_1 jc_X6_nextSign ⟨by decide, by decide, rfl⟩ ⟨by decide, by decide⟩)) (jOK_node (jOK_leaf (sn_callV (Y' := Y_X4_set) ok_X4_set dX0_meter_58 rfl rfl rfl tw_358 tw_151 tw_152 tw_5 jc_X4_set rfl ⟨by decide, by decide, rfl⟩ ⟨by decide, by decide⟩)) (jOK_leaf (sn_return dX0_meter_61 rfl rfl))))))
def F_X0_meter_30_61 : Nat → jT := fun pc => bif Nat.blt pc 44 then F_X0_meter_30 pc else F_X0_meter_44 pc
theorem F_X0_meter_30_61_ok : jOK Y_X0_meter none (F_X0_meter_30_61) := jOK_node (F_X0_meter_30_ok) (F_X0_meter_44_ok)
def F_X0_meter_0_61 : Nat → jT := fun pc => bif Nat.blt pc 30 then F_X0_meter_0_28 pc else F_X0_meter_30_61 pc
theorem F_X0_meter_0_61_ok : jOK Y_X0_meter none (F_X0_meter_0_61) := jOK_node (F_X0_meter_0_28_ok) (F_X0_meter_30_61_ok)
def F_X0_meter : Nat → jT := F_X0_meter_0_61
theorem OK_X0_meter : jOK Y_X0_meter none (F_X0_meter) := F_X0_meter_0_61_ok
theorem ft_X0_meter_0 : F_X0_meter 0 = J_aload 1 1 := ftl_X0_meter_0
theorem ft_X0_meter_1 : F_X0_meter 1 = J_iload 2 2 := ftl_X0_meter_1
theorem ft_X0_meter_2 : F_X0_meter 2 = J_iconst 1 3 := ftl_X0_meter_2
theorem ft_X0_meter_3 : F_X0_meter 3 = J_callV 4 S_X4_get 2 6 := ftl_X0_meter_3
theorem ft_X0_meter_6 : F_X0_meter 6 = J_istore 4 8 := ftl_X0_meter_6
theorem ft_X0_meter_8 : F_X0_meter 8 = J_aload 1 9 := ftl_X0_meter_8
theorem ft_X0_meter_9 : F_X0_meter 9 = J_iload 4 11 := ftl_X0_meter_9
theorem ft_X0_meter_11 : F_X0_meter 11 = J_iconst 0 12 := ftl_X0_meter_11
theorem ft_X0_meter_12 : F_X0_meter 12 = J_aload 1 13 := ftl_X0_meter_12
theorem ft_X0_meter_13 : F_X0_meter 13 = J_iload 4 15 := ftl_X0_meter_13
theorem ft_X0_meter_15 : F_X0_meter 15 = J_callV 4 S_X4_restOf 1 18 := ftl_X0_meter_15
theorem ft_X0_meter_18 : F_X0_meter 18 = J_iload 3 19 := ftl_X0_meter_18
theorem ft_X0_meter_19 : F_X0_meter 19 = J_isub 20 := ftl_X0_meter_19
theorem ft_X0_meter_20 : F_X0_meter 20 = J_mmax 23 := ftl_X0_meter_20
theorem ft_X0_meter_23 : F_X0_meter 23 = J_callV 4 S_X4_setRest 2 26 := ftl_X0_meter_23
theorem ft_X0_meter_26 : F_X0_meter 26 = J_aload 1 27 := ftl_X0_meter_26
theorem ft_X0_meter_27 : F_X0_meter 27 = J_iload 2 28 := ftl_X0_meter_27
theorem ft_X0_meter_28 : F_X0_meter 28 = J_iconst 7 30 := ftl_X0_meter_28
theorem ft_X0_meter_30 : F_X0_meter 30 = J_aload 1 31 := ftl_X0_meter_30
theorem ft_X0_meter_31 : F_X0_meter 31 = J_iload 2 32 := ftl_X0_meter_31
theorem ft_X0_meter_32 : F_X0_meter 32 = J_iconst 7 34 := ftl_X0_meter_32
theorem ft_X0_meter_34 : F_X0_meter 34 = J_callV 4 S_X4_get 2 37 := ftl_X0_meter_34
theorem ft_X0_meter_37 : F_X0_meter 37 = J_iload 3 38 := ftl_X0_meter_37
theorem ft_X0_meter_38 : F_X0_meter 38 = J_iadd 39 := ftl_X0_meter_38
theorem ft_X0_meter_39 : F_X0_meter 39 = J_callV 4 S_X4_set 3 42 := ftl_X0_meter_39
theorem ft_X0_meter_42 : F_X0_meter 42 = J_aload 1 43 := ftl_X0_meter_42
theorem ft_X0_meter_43 : F_X0_meter 43 = J_iload 2 44 := ftl_X0_meter_43
theorem ft_X0_meter_44 : F_X0_meter 44 = J_iconst 8 46 := ftl_X0_meter_44
theorem ft_X0_meter_46 : F_X0_meter 46 = J_aload 1 47 := ftl_X0_meter_46
theorem ft_X0_meter_47 : F_X0_meter 47 = J_iload 2 48 := ftl_X0_meter_47
theorem ft_X0_meter_48 : F_X0_meter 48 = J_iconst 8 50 := ftl_X0_meter_48
theorem ft_X0_meter_50 : F_X0_meter 50 = J_callV 4 S_X4_get 2 53 := ftl_X0_meter_50
theorem ft_X0_meter_53 : F_X0_meter 53 = J_iload 2 54 := ftl_X0_meter_53
theorem ft_X0_meter_54 : F_X0_meter 54 = J_iload 3 55 := ftl_X0_meter_54
theorem ft_X0_meter_55 : F_X0_meter 55 = J_callS S_X6_nextSign 3 58 := ftl_X0_meter_55
theorem ft_X0_meter_58 : F_X0_meter 58 = J_callV 4 S_X4_set 3 61 := ftl_X0_meter_58
theorem ft_X0_meter_61 : F_X0_meter 61 = J_return 0 0 := ftl_X0_meter_61
def S_X0_meter : jSp := fun nb vs mem Q => jcs vs ≤ 5 ∧ jrun F_X0_meter [] 80 Q (fun _ _ _ _ _ => False) 0 (jargs vs ++ [none]) [] mem (nb, 0, 0)
theorem ok_X0_meter : jMeets Y_X0_meter S_X0_meter := fun _ _ _ _ h => Ok.inl OK_X0_meter 80 [none] pn0 rfl h
theorem s_X0_meter {nb s : Nat} {C : Nat → Nat → Int32} {z : Nat → Int64} {p a : Int32} {Q : jQ} (h : jSt s 94) : S_X0_meter nb [.ref 6, .ref s, .int p, .int a] (memS 94 C z) Q = Q none (memS 94 (hrow C s (meterF (C s) p a)) z) := by
  refine (eq_le rfl).trans ?_
  simp -implicitDefEqProofs only [jr_0, jr_1, jr_2, j_iconst, j_lconst, j_iload0, j_aload0, j_istore0, j_astore0, j_iinc0, j_iload1, j_aload1, j_istore1, j_astore1, j_iinc1, j_iload2, j_aload2, j_istore2, j_astore2, j_iinc2, j_iload3, j_aload3, j_istore3, j_astore3, j_iinc3, j_iload4, j_aload4, j_istore4, j_astore4, j_iinc4, j_iload5, j_aload5, j_istore5, j_astore5, j_iinc5, j_iload6, j_aload6, j_istore6, j_astore6, j_iinc6, j_iload7, j_aload7, j_istore7, j_astore7, j_iinc7, j_iload8, j_aload8, j_istore8, j_astore8, j_iinc8, j_iadd, j_isub, j_imul, j_iand, j_ior, j_ixor, j_ishl, j_ishr, j_iushr, j_idiv, j_irem, j_ineg, j_ladd, j_lmul, j_land, j_lor, j_lcmp, j_lushr, j_lshl, j_i2l, j_l2i, j_dupI, j_dupR, j_popI, j_dup2, j_ifeq, j_iceq, j_ifne, j_icne, j_iflt, j_iclt, j_ifge, j_icge, j_ifgt, j_icgt, j_ifle, j_icle, j_goto, j_tsw, j_sw0, j_sw1, j_ireturn, j_zreturn, j_lreturn, j_return, j_getfield, j_putI, j_putJ, j_putR, j_iaload, j_baload, j_iastore, j_bastore, j_aaload, j_q, j_aastore, j_acopy, j_mmin, j_mmax, j_mabs, j_objinit, j_new, j_newI, j_newQ, j_sld, j_slen, j_callV0, j_callI0, j_callS0, j_callV1, j_callI1, j_callS1, j_callV2, j_callI2, j_callS2, j_callV3, j_callS3, j_callV4, j_callS4, j_callV5, j_callS5, j_pushS, j_pushN, j_sh0, j_sh1, j_sh2, j_sh3, j_sh4, Int32.reduceAdd, Int32.reduceMul, Int32.reduceSub, Int32.reduceLT, Int32.reduceLE, eq_self, i32_10, i32_01, ne_eq, hrow_s, hrow_n, ne10, ne100, ne1000, ne7, ne4, ne14, ne9973, or_true, true_or, or_false, false_or, not_true_eq_false, not_false_eq_true, false_implies, implies_true, and_true, forall_const, true_implies, jargs_n, jargs_r, jargs_i, List.cons_append, List.nil_append, true_and, Nat.reduceEqDiff, reduceIte, ft_X0_meter_0, ft_X0_meter_1, ft_X0_meter_2, ft_X0_meter_3, ft_X0_meter_6, ft_X0_meter_8, ft_X0_meter_9, ft_X0_meter_11, ft_X0_meter_12, ft_X0_meter_13, ft_X0_meter_15, ft_X0_meter_18, ft_X0_meter_19, ft_X0_meter_20, ft_X0_meter_23, ft_X0_meter_26, ft_X0_meter_27, ft_X0_meter_28, ft_X0_meter_30, ft_X0_meter_31, ft_X0_meter_32, ft_X0_meter_34, ft_X0_meter_37, ft_X0_meter_38, ft_X0_meter_39, ft_X0_meter_42, ft_X0_meter_43, ft_X0_meter_44, ft_X0_meter_46, ft_X0_meter_47, ft_X0_meter_48, ft_X0_meter_50, ft_X0_meter_53, ft_X0_meter_54, ft_X0_meter_55, ft_X0_meter_58, ft_X0_meter_61, jrcv_st h, s_X4_get h, s_X4_set h, s_X4_restOf h, s_X4_setRest h, s_X6_nextSign, hrow_hrow]
  rfl
def F_X0_exceed_0 : Nat → jT := fun pc => (bif Nat.blt pc 8 then (bif Nat.blt pc 2 then (bif Nat.blt pc 1 then (bif Nat.beq pc 0 then J_aload 1 1 else jbad) else (bif Nat.beq pc 1 then J_iload 2 2 else jbad)) else (bif Nat.blt pc 4 then (bif Nat.beq pc 2 then J_iconst 6 4 else jbad) else (bif Nat.blt pc 7 then (bif Nat.beq pc 4 then J_callV 4 S_X4_get 2 7 else jbad) else (bif Nat.beq pc 7 then J_iconst 1 8 else jbad)))) else (bif Nat.blt pc 11 then (bif Nat.blt pc 9 then (bif Nat.beq pc 8 then J_iadd 9 else jbad) else (bif Nat.blt pc 10 then (bif Nat.beq pc 9 then J_istore 3 10 else jbad) else (bif Nat.beq pc 10 then J_iload 3 11 else jbad))) else (bif Nat.blt pc 12 then (bif Nat.beq pc 11 then J_iconst 2 12 else jbad) else (bif Nat.blt pc 15 then (bif Nat.beq pc 12 then J_icne 24 15 else jbad) else (bif Nat.beq pc 15 then J_aload 1 16 else jbad)))))
theorem ftl_X0_exceed_0 : F_X0_exceed_0 0 = J_aload 1 1 := rfl
theorem ftl_X0_exceed_1 : F_X0_exceed_0 1 = J_iload 2 2 := rfl
theorem ftl_X0_exceed_2 : F_X0_exceed_0 2 = J_iconst 6 4 := rfl
theorem ftl_X0_exceed_4 : F_X0_exceed_0 4 = J_callV 4 S_X4_get 2 7 := rfl
theorem ftl_X0_exceed_7 : F_X0_exceed_0 7 = J_iconst 1 8 := rfl
theorem ftl_X0_exceed_8 : F_X0_exceed_0 8 = J_iadd 9 := rfl
theorem ftl_X0_exceed_9 : F_X0_exceed_0 9 = J_istore 3 10 := rfl
theorem ftl_X0_exceed_10 : F_X0_exceed_0 10 = J_iload 3 11 := rfl
theorem ftl_X0_exceed_11 : F_X0_exceed_0 11 = J_iconst 2 12 := rfl
theorem ftl_X0_exceed_12 : F_X0_exceed_0 12 = J_icne 24 15 := rfl
theorem ftl_X0_exceed_15 : F_X0_exceed_0 15 = J_aload 1 16 := rfl
theorem F_X0_exceed_0_ok : jOK Y_X0_exceed none (F_X0_exceed_0) := (jOK_node (jOK_node (jOK_node (jOK_leaf (sn_aload_n dX0_exceed_0 rfl rfl)) (jOK_leaf (sn_iload_n dX0_exceed_1 rfl rfl))) (jOK_node (jOK_leaf (sn_bipush dX0_exceed_2 rfl rfl)) (jOK_node (jOK_leaf (sn_callV (Y' := Y_X4_get) ok_X4_get dX0_exceed_4 rfl rfl rfl tw_306 tw_267 tw_268 tw_5 jc_X4_get rfl ⟨by decide, by decide, rfl⟩ ⟨by decide, by decide⟩)) (jOK_leaf (sn_iconst dX0_exceed_7 rfl rfl))))) (jOK_node (jOK_node (jOK_leaf (sn_iadd dX0_exceed_8 rfl)) (jOK_node (jOK_leaf (sn_istore_n dX0_exceed_9 rfl rfl (by decide))) (jOK_leaf (sn_iload_n dX0_exceed_10 rfl rfl)))) (jOK_node (jOK_leaf (sn_iconst dX0_exceed_11 rfl rfl)) (jOK_node (jOK_leaf (sn_icne dX0_exceed_12 rfl rfl)) (jOK_leaf (sn_aload_n dX0_exceed_15 rfl rfl))))))
def F_X0_exceed_16 : Nat → jT := fun pc => (bif Nat.blt pc 24 then (bif Nat.blt pc 19 then (bif Nat.blt pc 17 then (bif Nat.beq pc 16 then J_iload 2 17 else jbad) else (bif Nat.blt pc 18 then (bif Nat.beq pc 17 then J_iconst 2 18 else jbad) else (bif Nat.beq pc 18 then J_iconst 4 19 else jbad))) else (bif Nat.blt pc 22 then (bif Nat.beq pc 19 then J_callV 4 S_X4_set 3 22 else jbad) else (bif Nat.blt pc 23 then (bif Nat.beq pc 22 then J_iconst 0 23 else jbad) else (bif Nat.beq pc 23 then J_istore 3 24 else jbad)))) else (bif Nat.blt pc 28 then (bif Nat.blt pc 25 then (bif Nat.beq pc 24 then J_aload 1 25 else jbad) else (bif Nat.blt pc 26 then (bif Nat.beq pc 25 then J_iload 2 26 else jbad) else (bif Nat.beq pc 26 then J_iconst 6 28 else jbad))) else (bif Nat.blt pc 29 then (bif Nat.beq pc 28 then J_iload 3 29 else jbad) else (bif Nat.blt pc 32 then (bif Nat.beq pc 29 then J_callV 4 S_X4_set 3 32 else jbad) else (bif Nat.beq pc 32 then J_return 0 0 else jbad)))))
theorem ftl_X0_exceed_16 : F_X0_exceed_16 16 = J_iload 2 17 := rfl
theorem ftl_X0_exceed_17 : F_X0_exceed_16 17 = J_iconst 2 18 := rfl
theorem ftl_X0_exceed_18 : F_X0_exceed_16 18 = J_iconst 4 19 := rfl
theorem ftl_X0_exceed_19 : F_X0_exceed_16 19 = J_callV 4 S_X4_set 3 22 := rfl
theorem ftl_X0_exceed_22 : F_X0_exceed_16 22 = J_iconst 0 23 := rfl
theorem ftl_X0_exceed_23 : F_X0_exceed_16 23 = J_istore 3 24 := rfl
theorem ftl_X0_exceed_24 : F_X0_exceed_16 24 = J_aload 1 25 := rfl
theorem ftl_X0_exceed_25 : F_X0_exceed_16 25 = J_iload 2 26 := rfl
theorem ftl_X0_exceed_26 : F_X0_exceed_16 26 = J_iconst 6 28 := rfl
theorem ftl_X0_exceed_28 : F_X0_exceed_16 28 = J_iload 3 29 := rfl
theorem ftl_X0_exceed_29 : F_X0_exceed_16 29 = J_callV 4 S_X4_set 3 32 := rfl
theorem ftl_X0_exceed_32 : F_X0_exceed_16 32 = J_return 0 0 := rfl
theorem F_X0_exceed_16_ok : jOK Y_X0_exceed none (F_X0_exceed_16) := (jOK_node (jOK_node (jOK_node (jOK_leaf (sn_iload_n dX0_exceed_16 rfl rfl)) (jOK_node (jOK_leaf (sn_iconst dX0_exceed_17 rfl rfl)) (jOK_leaf (sn_iconst dX0_exceed_18 rfl rfl)))) (jOK_node (jOK_leaf (sn_callV (Y' := Y_X4_set) ok_X4_set dX0_exceed_19 rfl rfl rfl tw_358 tw_151 tw_152 tw_5 jc_X4_set rfl ⟨by decide, by decide, rfl⟩ ⟨by decide, by decide⟩)) (jOK_node (jOK_leaf (sn_iconst dX0_exceed_22 rfl rfl)) (jOK_leaf (sn_istore_n dX0_exceed_23 rfl rfl (by decide)))))) (jOK_node (jOK_node (jOK_leaf (sn_aload_n dX0_exceed_24 rfl rfl)) (jOK_node (jOK_leaf (sn_iload_n dX0_exceed_25 rfl rfl)) (jOK_leaf (sn_bipush dX0_exceed_26 rfl rfl)))) (jOK_node (jOK_leaf (sn_iload_n dX0_exceed_28 rfl rfl)) (jOK_node (jOK_leaf (sn_callV (Y' := Y_X4_set) ok_X4_set dX0_exceed_29 rfl rfl rfl tw_358 tw_151 tw_152 tw_5 jc_X4_set rfl ⟨by decide, by decide, rfl⟩ ⟨by decide, by decide⟩)) (jOK_leaf (sn_return dX0_exceed_32 rfl rfl))))))
def F_X0_exceed_0_32 : Nat → jT := fun pc => bif Nat.blt pc 16 then F_X0_exceed_0 pc else F_X0_exceed_16 pc
theorem F_X0_exceed_0_32_ok : jOK Y_X0_exceed none (F_X0_exceed_0_32) := jOK_node (F_X0_exceed_0_ok) (F_X0_exceed_16_ok)
def F_X0_exceed : Nat → jT := F_X0_exceed_0_32
theorem OK_X0_exceed : jOK Y_X0_exceed none (F_X0_exceed) := F_X0_exceed_0_32_ok
theorem ft_X0_exceed_0 : F_X0_exceed 0 = J_aload 1 1 := ftl_X0_exceed_0
theorem ft_X0_exceed_1 : F_X0_exceed 1 = J_iload 2 2 := ftl_X0_exceed_1
theorem ft_X0_exceed_2 : F_X0_exceed 2 = J_iconst 6 4 := ftl_X0_exceed_2
theorem ft_X0_exceed_4 : F_X0_exceed 4 = J_callV 4 S_X4_get 2 7 := ftl_X0_exceed_4
theorem ft_X0_exceed_7 : F_X0_exceed 7 = J_iconst 1 8 := ftl_X0_exceed_7
theorem ft_X0_exceed_8 : F_X0_exceed 8 = J_iadd 9 := ftl_X0_exceed_8
theorem ft_X0_exceed_9 : F_X0_exceed 9 = J_istore 3 10 := ftl_X0_exceed_9
theorem ft_X0_exceed_10 : F_X0_exceed 10 = J_iload 3 11 := ftl_X0_exceed_10
theorem ft_X0_exceed_11 : F_X0_exceed 11 = J_iconst 2 12 := ftl_X0_exceed_11
theorem ft_X0_exceed_12 : F_X0_exceed 12 = J_icne 24 15 := ftl_X0_exceed_12
theorem ft_X0_exceed_15 : F_X0_exceed 15 = J_aload 1 16 := ftl_X0_exceed_15
theorem ft_X0_exceed_16 : F_X0_exceed 16 = J_iload 2 17 := ftl_X0_exceed_16
theorem ft_X0_exceed_17 : F_X0_exceed 17 = J_iconst 2 18 := ftl_X0_exceed_17
theorem ft_X0_exceed_18 : F_X0_exceed 18 = J_iconst 4 19 := ftl_X0_exceed_18
theorem ft_X0_exceed_19 : F_X0_exceed 19 = J_callV 4 S_X4_set 3 22 := ftl_X0_exceed_19
theorem ft_X0_exceed_22 : F_X0_exceed 22 = J_iconst 0 23 := ftl_X0_exceed_22
theorem ft_X0_exceed_23 : F_X0_exceed 23 = J_istore 3 24 := ftl_X0_exceed_23
theorem ft_X0_exceed_24 : F_X0_exceed 24 = J_aload 1 25 := ftl_X0_exceed_24
theorem ft_X0_exceed_25 : F_X0_exceed 25 = J_iload 2 26 := ftl_X0_exceed_25
theorem ft_X0_exceed_26 : F_X0_exceed 26 = J_iconst 6 28 := ftl_X0_exceed_26
theorem ft_X0_exceed_28 : F_X0_exceed 28 = J_iload 3 29 := ftl_X0_exceed_28
theorem ft_X0_exceed_29 : F_X0_exceed 29 = J_callV 4 S_X4_set 3 32 := ftl_X0_exceed_29
theorem ft_X0_exceed_32 : F_X0_exceed 32 = J_return 0 0 := ftl_X0_exceed_32
def S_X0_exceed : jSp := fun nb vs mem Q => jcs vs ≤ 4 ∧ jrun F_X0_exceed [] 60 Q (fun _ _ _ _ _ => False) 0 (jargs vs ++ [none]) [] mem (nb, 0, 0)
theorem ok_X0_exceed : jMeets Y_X0_exceed S_X0_exceed := fun _ _ _ _ h => Ok.inl OK_X0_exceed 60 [none] pn0 rfl h
theorem s_X0_exceed {nb s : Nat} {C : Nat → Nat → Int32} {z : Nat → Int64} {p : Int32} {Q : jQ} (h : jSt s 94) : S_X0_exceed nb [.ref 6, .ref s, .int p] (memS 94 C z) Q = Q none (memS 94 (hrow C s (exceedF (C s) p)) z) := by
  refine (eq_le rfl).trans ?_
  simp -implicitDefEqProofs only [jr_0, jr_1, jr_2, j_iconst, j_lconst, j_iload0, j_aload0, j_istore0, j_astore0, j_iinc0, j_iload1, j_aload1, j_istore1, j_astore1, j_iinc1, j_iload2, j_aload2, j_istore2, j_astore2, j_iinc2, j_iload3, j_aload3, j_istore3, j_astore3, j_iinc3, j_iload4, j_aload4, j_istore4, j_astore4, j_iinc4, j_iload5, j_aload5, j_istore5, j_astore5, j_iinc5, j_iload6, j_aload6, j_istore6, j_astore6, j_iinc6, j_iload7, j_aload7, j_istore7, j_astore7, j_iinc7, j_iload8, j_aload8, j_istore8, j_astore8, j_iinc8, j_iadd, j_isub, j_imul, j_iand, j_ior, j_ixor, j_ishl, j_ishr, j_iushr, j_idiv, j_irem, j_ineg, j_ladd, j_lmul, j_land, j_lor, j_lcmp, j_lushr, j_lshl, j_i2l, j_l2i, j_dupI, j_dupR, j_popI, j_dup2, j_ifeq, j_iceq, j_ifne, j_icne, j_iflt, j_iclt, j_ifge, j_icge, j_ifgt, j_icgt, j_ifle, j_icle, j_goto, j_tsw, j_sw0, j_sw1, j_ireturn, j_zreturn, j_lreturn, j_return, j_getfield, j_putI, j_putJ, j_putR, j_iaload, j_baload, j_iastore, j_bastore, j_aaload, j_q, j_aastore, j_acopy, j_mmin, j_mmax, j_mabs, j_objinit, j_new, j_newI, j_newQ, j_sld, j_slen, j_callV0, j_callI0, j_callS0, j_callV1, j_callI1, j_callS1, j_callV2, j_callI2, j_callS2, j_callV3, j_callS3, j_callV4, j_callS4, j_callV5, j_callS5, j_pushS, j_pushN, j_sh0, j_sh1, j_sh2, j_sh3, j_sh4, Int32.reduceAdd, Int32.reduceMul, Int32.reduceSub, Int32.reduceLT, Int32.reduceLE, eq_self, i32_10, i32_01, ne_eq, hrow_s, hrow_n, ne10, ne100, ne1000, ne7, ne4, ne14, ne9973, or_true, true_or, or_false, false_or, not_true_eq_false, not_false_eq_true, false_implies, implies_true, and_true, forall_const, true_implies, jargs_n, jargs_r, jargs_i, List.cons_append, List.nil_append, true_and, Nat.reduceEqDiff, reduceIte, ft_X0_exceed_0, ft_X0_exceed_1, ft_X0_exceed_2, ft_X0_exceed_4, ft_X0_exceed_7, ft_X0_exceed_8, ft_X0_exceed_9, ft_X0_exceed_10, ft_X0_exceed_11, ft_X0_exceed_12, ft_X0_exceed_15, ft_X0_exceed_16, ft_X0_exceed_17, ft_X0_exceed_18, ft_X0_exceed_19, ft_X0_exceed_22, ft_X0_exceed_23, ft_X0_exceed_24, ft_X0_exceed_25, ft_X0_exceed_26, ft_X0_exceed_28, ft_X0_exceed_29, ft_X0_exceed_32, jrcv_st h, s_X4_get h, s_X4_set h, hrow_hrow]
  unfold exceedF
  by_cases h1 : rget (C s) p 6 + 1 = 2 <;> simp [pick, h1]
/-! growSilent -/
def S_X0_growSilent : jSp := fun _ vs mem Q => ∃ C z s P, ∃ sil l : Int32, vs = [.ref 6, .ref s, .int sil, .int l] ∧ mem = memS 94 C z ∧ jSt s 94 ∧ C 3 2 = nI P ∧ P ≤ 4 ∧ Q none (memS 94 (hrow C s (foldP (silStep (C 5) (C 3 5) sil l) (C s) P)) z)
def F_X0_growSilent_0 : Nat → jT := fun pc => (bif Nat.blt pc 9 then (bif Nat.blt pc 3 then (bif Nat.blt pc 1 then (bif Nat.beq pc 0 then J_iconst 0 1 else jbad) else (bif Nat.beq pc 1 then J_istore 4 3 else jbad)) else (bif Nat.blt pc 5 then (bif Nat.beq pc 3 then J_iload 4 5 else jbad) else (bif Nat.blt pc 6 then (bif Nat.beq pc 5 then J_aload 0 6 else jbad) else (bif Nat.beq pc 6 then J_getfield 0 0 9 else jbad)))) else (bif Nat.blt pc 16 then (bif Nat.blt pc 12 then (bif Nat.beq pc 9 then J_getfield 3 2 12 else jbad) else (bif Nat.blt pc 15 then (bif Nat.beq pc 12 then J_icge 91 15 else jbad) else (bif Nat.beq pc 15 then J_iload 2 16 else jbad))) else (bif Nat.blt pc 18 then (bif Nat.beq pc 16 then J_iload 4 18 else jbad) else (bif Nat.blt pc 21 then (bif Nat.beq pc 18 then J_callS S_X6_has 2 21 else jbad) else (bif Nat.beq pc 21 then J_ifeq 85 24 else jbad)))))
theorem ftl_X0_growSilent_0 : F_X0_growSilent_0 0 = J_iconst 0 1 := rfl
theorem ftl_X0_growSilent_1 : F_X0_growSilent_0 1 = J_istore 4 3 := rfl
theorem ftl_X0_growSilent_3 : F_X0_growSilent_0 3 = J_iload 4 5 := rfl
theorem ftl_X0_growSilent_5 : F_X0_growSilent_0 5 = J_aload 0 6 := rfl
theorem ftl_X0_growSilent_6 : F_X0_growSilent_0 6 = J_getfield 0 0 9 := rfl
theorem ftl_X0_growSilent_9 : F_X0_growSilent_0 9 = J_getfield 3 2 12 := rfl
theorem ftl_X0_growSilent_12 : F_X0_growSilent_0 12 = J_icge 91 15 := rfl
theorem ftl_X0_growSilent_15 : F_X0_growSilent_0 15 = J_iload 2 16 := rfl
theorem ftl_X0_growSilent_16 : F_X0_growSilent_0 16 = J_iload 4 18 := rfl
theorem ftl_X0_growSilent_18 : F_X0_growSilent_0 18 = J_callS S_X6_has 2 21 := rfl
theorem ftl_X0_growSilent_21 : F_X0_growSilent_0 21 = J_ifeq 85 24 := rfl
theorem F_X0_growSilent_0_ok : jOK Y_X0_growSilent none (F_X0_growSilent_0) := (jOK_node (jOK_node (jOK_node (jOK_leaf (sn_iconst dX0_growSilent_0 rfl rfl)) (jOK_leaf (sn_istore dX0_growSilent_1 rfl (by decide)))) (jOK_node (jOK_leaf (sn_iload dX0_growSilent_3 rfl)) (jOK_node (jOK_leaf (sn_aload_n dX0_growSilent_5 rfl rfl)) (jOK_leaf (sn_getfield dX0_growSilent_6 rfl rfl (by decide) tw_73 jin0))))) (jOK_node (jOK_node (jOK_leaf (sn_getfield dX0_growSilent_9 rfl rfl (by decide) tw_46 jin3)) (jOK_node (jOK_leaf (sn_icge dX0_growSilent_12 rfl rfl)) (jOK_leaf (sn_iload_n dX0_growSilent_15 rfl rfl)))) (jOK_node (jOK_leaf (sn_iload dX0_growSilent_16 rfl)) (jOK_node (jOK_leaf (sn_callSN (Y' := Y_X6_has) (host := "ChargePosts") ok_X6_has dX0_growSilent_18 rfl rfl (List.mem_of_getElem? (i := 5) rfl) tw_308 tw_1 jc_X6_has ⟨by decide, by decide, rfl⟩ ⟨by decide, by decide⟩)) (jOK_leaf (sn_ifeq dX0_growSilent_21 rfl rfl))))))
def F_X0_growSilent_24 : Nat → jT := fun pc => (bif Nat.blt pc 35 then (bif Nat.blt pc 30 then (bif Nat.blt pc 25 then (bif Nat.beq pc 24 then J_aload 1 25 else jbad) else (bif Nat.blt pc 27 then (bif Nat.beq pc 25 then J_iload 4 27 else jbad) else (bif Nat.beq pc 27 then J_callV 4 S_X4_isLive 1 30 else jbad))) else (bif Nat.blt pc 33 then (bif Nat.beq pc 30 then J_ifeq 85 33 else jbad) else (bif Nat.blt pc 34 then (bif Nat.beq pc 33 then J_aload 0 34 else jbad) else (bif Nat.beq pc 34 then J_aload 1 35 else jbad)))) else (bif Nat.blt pc 41 then (bif Nat.blt pc 37 then (bif Nat.beq pc 35 then J_iload 4 37 else jbad) else (bif Nat.blt pc 38 then (bif Nat.beq pc 37 then J_iload 3 38 else jbad) else (bif Nat.beq pc 38 then J_callV 0 S_X0_kindAt 3 41 else jbad))) else (bif Nat.blt pc 42 then (bif Nat.beq pc 41 then J_iconst 2 42 else jbad) else (bif Nat.blt pc 45 then (bif Nat.beq pc 42 then J_iceq 85 45 else jbad) else (bif Nat.beq pc 45 then J_aload 1 46 else jbad)))))
theorem ftl_X0_growSilent_24 : F_X0_growSilent_24 24 = J_aload 1 25 := rfl
theorem ftl_X0_growSilent_25 : F_X0_growSilent_24 25 = J_iload 4 27 := rfl
theorem ftl_X0_growSilent_27 : F_X0_growSilent_24 27 = J_callV 4 S_X4_isLive 1 30 := rfl
theorem ftl_X0_growSilent_30 : F_X0_growSilent_24 30 = J_ifeq 85 33 := rfl
theorem ftl_X0_growSilent_33 : F_X0_growSilent_24 33 = J_aload 0 34 := rfl
theorem ftl_X0_growSilent_34 : F_X0_growSilent_24 34 = J_aload 1 35 := rfl
theorem ftl_X0_growSilent_35 : F_X0_growSilent_24 35 = J_iload 4 37 := rfl
theorem ftl_X0_growSilent_37 : F_X0_growSilent_24 37 = J_iload 3 38 := rfl
theorem ftl_X0_growSilent_38 : F_X0_growSilent_24 38 = J_callV 0 S_X0_kindAt 3 41 := rfl
theorem ftl_X0_growSilent_41 : F_X0_growSilent_24 41 = J_iconst 2 42 := rfl
theorem ftl_X0_growSilent_42 : F_X0_growSilent_24 42 = J_iceq 85 45 := rfl
theorem ftl_X0_growSilent_45 : F_X0_growSilent_24 45 = J_aload 1 46 := rfl
theorem F_X0_growSilent_24_ok : jOK Y_X0_growSilent none (F_X0_growSilent_24) := (jOK_node (jOK_node (jOK_node (jOK_leaf (sn_aload_n dX0_growSilent_24 rfl rfl)) (jOK_node (jOK_leaf (sn_iload dX0_growSilent_25 rfl)) (jOK_leaf (sn_callV (Y' := Y_X4_isLive) ok_X4_isLive dX0_growSilent_27 rfl rfl rfl tw_350 tw_351 tw_352 tw_5 jc_X4_isLive rfl ⟨by decide, by decide, rfl⟩ ⟨by decide, by decide⟩)))) (jOK_node (jOK_leaf (sn_ifeq dX0_growSilent_30 rfl rfl)) (jOK_node (jOK_leaf (sn_aload_n dX0_growSilent_33 rfl rfl)) (jOK_leaf (sn_aload_n dX0_growSilent_34 rfl rfl))))) (jOK_node (jOK_node (jOK_leaf (sn_iload dX0_growSilent_35 rfl)) (jOK_node (jOK_leaf (sn_iload_n dX0_growSilent_37 rfl rfl)) (jOK_leaf (sn_callV (Y' := Y_X0_kindAt) ok_X0_kindAt dX0_growSilent_38 rfl rfl rfl tw_354 tw_356 tp_9 tw_4 jc_X0_kindAt rfl ⟨by decide, by decide, rfl⟩ ⟨by decide, by decide⟩)))) (jOK_node (jOK_leaf (sn_iconst dX0_growSilent_41 rfl rfl)) (jOK_node (jOK_leaf (sn_iceq dX0_growSilent_42 rfl rfl)) (jOK_leaf (sn_aload_n dX0_growSilent_45 rfl rfl))))))
def F_X0_growSilent_0_45 : Nat → jT := fun pc => bif Nat.blt pc 24 then F_X0_growSilent_0 pc else F_X0_growSilent_24 pc
theorem F_X0_growSilent_0_45_ok : jOK Y_X0_growSilent none (F_X0_growSilent_0_45) := jOK_node (F_X0_growSilent_0_ok) (F_X0_growSilent_24_ok)
def F_X0_growSilent_46 : Nat → jT := fun pc => (bif Nat.blt pc 56 then (bif Nat.blt pc 52 then (bif Nat.blt pc 48 then (bif Nat.beq pc 46 then J_iload 4 48 else jbad) else (bif Nat.blt pc 49 then (bif Nat.beq pc 48 then J_iconst 4 49 else jbad) else (bif Nat.beq pc 49 then J_callV 4 S_X4_get 2 52 else jbad))) else (bif Nat.blt pc 53 then (bif Nat.beq pc 52 then J_iconst 1 53 else jbad) else (bif Nat.blt pc 54 then (bif Nat.beq pc 53 then J_iadd 54 else jbad) else (bif Nat.beq pc 54 then J_istore 5 56 else jbad)))) else (bif Nat.blt pc 60 then (bif Nat.blt pc 57 then (bif Nat.beq pc 56 then J_aload 1 57 else jbad) else (bif Nat.blt pc 59 then (bif Nat.beq pc 57 then J_iload 4 59 else jbad) else (bif Nat.beq pc 59 then J_iconst 4 60 else jbad))) else (bif Nat.blt pc 62 then (bif Nat.beq pc 60 then J_iload 5 62 else jbad) else (bif Nat.blt pc 65 then (bif Nat.beq pc 62 then J_callV 4 S_X4_set 3 65 else jbad) else (bif Nat.beq pc 65 then J_iload 5 67 else jbad)))))
theorem ftl_X0_growSilent_46 : F_X0_growSilent_46 46 = J_iload 4 48 := rfl
theorem ftl_X0_growSilent_48 : F_X0_growSilent_46 48 = J_iconst 4 49 := rfl
theorem ftl_X0_growSilent_49 : F_X0_growSilent_46 49 = J_callV 4 S_X4_get 2 52 := rfl
theorem ftl_X0_growSilent_52 : F_X0_growSilent_46 52 = J_iconst 1 53 := rfl
theorem ftl_X0_growSilent_53 : F_X0_growSilent_46 53 = J_iadd 54 := rfl
theorem ftl_X0_growSilent_54 : F_X0_growSilent_46 54 = J_istore 5 56 := rfl
theorem ftl_X0_growSilent_56 : F_X0_growSilent_46 56 = J_aload 1 57 := rfl
theorem ftl_X0_growSilent_57 : F_X0_growSilent_46 57 = J_iload 4 59 := rfl
theorem ftl_X0_growSilent_59 : F_X0_growSilent_46 59 = J_iconst 4 60 := rfl
theorem ftl_X0_growSilent_60 : F_X0_growSilent_46 60 = J_iload 5 62 := rfl
theorem ftl_X0_growSilent_62 : F_X0_growSilent_46 62 = J_callV 4 S_X4_set 3 65 := rfl
theorem ftl_X0_growSilent_65 : F_X0_growSilent_46 65 = J_iload 5 67 := rfl
theorem F_X0_growSilent_46_ok : jOK Y_X0_growSilent none (F_X0_growSilent_46) := (jOK_node (jOK_node (jOK_node (jOK_leaf (sn_iload dX0_growSilent_46 rfl)) (jOK_node (jOK_leaf (sn_iconst dX0_growSilent_48 rfl rfl)) (jOK_leaf (sn_callV (Y' := Y_X4_get) ok_X4_get dX0_growSilent_49 rfl rfl rfl tw_306 tw_267 tw_268 tw_5 jc_X4_get rfl ⟨by decide, by decide, rfl⟩ ⟨by decide, by decide⟩)))) (jOK_node (jOK_leaf (sn_iconst dX0_growSilent_52 rfl rfl)) (jOK_node (jOK_leaf (sn_iadd dX0_growSilent_53 rfl)) (jOK_leaf (sn_istore dX0_growSilent_54 rfl (by decide)))))) (jOK_node (jOK_node (jOK_leaf (sn_aload_n dX0_growSilent_56 rfl rfl)) (jOK_node (jOK_leaf (sn_iload dX0_growSilent_57 rfl)) (jOK_leaf (sn_iconst dX0_growSilent_59 rfl rfl)))) (jOK_node (jOK_leaf (sn_iload dX0_growSilent_60 rfl)) (jOK_node (jOK_leaf (sn_callV (Y' := Y_X4_set) ok_X4_set dX0_growSilent_62 rfl rfl rfl tw_358 tw_151 tw_152 tw_5 jc_X4_set rfl ⟨by decide, by decide, rfl⟩ ⟨by decide, by decide⟩)) (jOK_leaf (sn_iload dX0_growSilent_65 rfl))))))
def F_X0_growSilent_67 : Nat → jT := fun pc => (bif Nat.blt pc 80 then (bif Nat.blt pc 74 then (bif Nat.blt pc 68 then (bif Nat.beq pc 67 then J_aload 0 68 else jbad) else (bif Nat.blt pc 71 then (bif Nat.beq pc 68 then J_getfield 0 0 71 else jbad) else (bif Nat.beq pc 71 then J_getfield 3 5 74 else jbad))) else (bif Nat.blt pc 77 then (bif Nat.beq pc 74 then J_icle 85 77 else jbad) else (bif Nat.blt pc 78 then (bif Nat.beq pc 77 then J_aload 1 78 else jbad) else (bif Nat.beq pc 78 then J_iload 4 80 else jbad)))) else (bif Nat.blt pc 85 then (bif Nat.blt pc 81 then (bif Nat.beq pc 80 then J_iconst 2 81 else jbad) else (bif Nat.blt pc 82 then (bif Nat.beq pc 81 then J_iconst 4 82 else jbad) else (bif Nat.beq pc 82 then J_callV 4 S_X4_set 3 85 else jbad))) else (bif Nat.blt pc 88 then (bif Nat.beq pc 85 then J_iinc 4 1 88 else jbad) else (bif Nat.blt pc 91 then (bif Nat.beq pc 88 then J_goto 3 else jbad) else (bif Nat.beq pc 91 then J_return 0 0 else jbad)))))
theorem ftl_X0_growSilent_67 : F_X0_growSilent_67 67 = J_aload 0 68 := rfl
theorem ftl_X0_growSilent_68 : F_X0_growSilent_67 68 = J_getfield 0 0 71 := rfl
theorem ftl_X0_growSilent_71 : F_X0_growSilent_67 71 = J_getfield 3 5 74 := rfl
theorem ftl_X0_growSilent_74 : F_X0_growSilent_67 74 = J_icle 85 77 := rfl
theorem ftl_X0_growSilent_77 : F_X0_growSilent_67 77 = J_aload 1 78 := rfl
theorem ftl_X0_growSilent_78 : F_X0_growSilent_67 78 = J_iload 4 80 := rfl
theorem ftl_X0_growSilent_80 : F_X0_growSilent_67 80 = J_iconst 2 81 := rfl
theorem ftl_X0_growSilent_81 : F_X0_growSilent_67 81 = J_iconst 4 82 := rfl
theorem ftl_X0_growSilent_82 : F_X0_growSilent_67 82 = J_callV 4 S_X4_set 3 85 := rfl
theorem ftl_X0_growSilent_85 : F_X0_growSilent_67 85 = J_iinc 4 1 88 := rfl
theorem ftl_X0_growSilent_88 : F_X0_growSilent_67 88 = J_goto 3 := rfl
theorem ftl_X0_growSilent_91 : F_X0_growSilent_67 91 = J_return 0 0 := rfl
theorem F_X0_growSilent_67_ok : jOK Y_X0_growSilent none (F_X0_growSilent_67) := (jOK_node (jOK_node (jOK_node (jOK_leaf (sn_aload_n dX0_growSilent_67 rfl rfl)) (jOK_node (jOK_leaf (sn_getfield dX0_growSilent_68 rfl rfl (by decide) tw_73 jin0)) (jOK_leaf (sn_getfield dX0_growSilent_71 rfl rfl (by decide) tw_53 jin3)))) (jOK_node (jOK_leaf (sn_icle dX0_growSilent_74 rfl rfl)) (jOK_node (jOK_leaf (sn_aload_n dX0_growSilent_77 rfl rfl)) (jOK_leaf (sn_iload dX0_growSilent_78 rfl))))) (jOK_node (jOK_node (jOK_leaf (sn_iconst dX0_growSilent_80 rfl rfl)) (jOK_node (jOK_leaf (sn_iconst dX0_growSilent_81 rfl rfl)) (jOK_leaf (sn_callV (Y' := Y_X4_set) ok_X4_set dX0_growSilent_82 rfl rfl rfl tw_358 tw_151 tw_152 tw_5 jc_X4_set rfl ⟨by decide, by decide, rfl⟩ ⟨by decide, by decide⟩)))) (jOK_node (jOK_leaf (sn_iinc dX0_growSilent_85 rfl rfl (by decide))) (jOK_node (jOK_leaf (sn_goto dX0_growSilent_88 rfl)) (jOK_leaf (sn_return dX0_growSilent_91 rfl rfl))))))
def F_X0_growSilent_46_91 : Nat → jT := fun pc => bif Nat.blt pc 67 then F_X0_growSilent_46 pc else F_X0_growSilent_67 pc
theorem F_X0_growSilent_46_91_ok : jOK Y_X0_growSilent none (F_X0_growSilent_46_91) := jOK_node (F_X0_growSilent_46_ok) (F_X0_growSilent_67_ok)
def F_X0_growSilent_0_91 : Nat → jT := fun pc => bif Nat.blt pc 46 then F_X0_growSilent_0_45 pc else F_X0_growSilent_46_91 pc
theorem F_X0_growSilent_0_91_ok : jOK Y_X0_growSilent none (F_X0_growSilent_0_91) := jOK_node (F_X0_growSilent_0_45_ok) (F_X0_growSilent_46_91_ok)
def F_X0_growSilent : Nat → jT := F_X0_growSilent_0_91
theorem OK_X0_growSilent : jOK Y_X0_growSilent none (F_X0_growSilent) := F_X0_growSilent_0_91_ok
theorem ft_X0_growSilent_0 : F_X0_growSilent 0 = J_iconst 0 1 := ftl_X0_growSilent_0
theorem ft_X0_growSilent_1 : F_X0_growSilent 1 = J_istore 4 3 := ftl_X0_growSilent_1
theorem ft_X0_growSilent_3 : F_X0_growSilent 3 = J_iload 4 5 := ftl_X0_growSilent_3
theorem ft_X0_growSilent_5 : F_X0_growSilent 5 = J_aload 0 6 := ftl_X0_growSilent_5
theorem ft_X0_growSilent_6 : F_X0_growSilent 6 = J_getfield 0 0 9 := ftl_X0_growSilent_6
theorem ft_X0_growSilent_9 : F_X0_growSilent 9 = J_getfield 3 2 12 := ftl_X0_growSilent_9
theorem ft_X0_growSilent_12 : F_X0_growSilent 12 = J_icge 91 15 := ftl_X0_growSilent_12
theorem ft_X0_growSilent_15 : F_X0_growSilent 15 = J_iload 2 16 := ftl_X0_growSilent_15
theorem ft_X0_growSilent_16 : F_X0_growSilent 16 = J_iload 4 18 := ftl_X0_growSilent_16
theorem ft_X0_growSilent_18 : F_X0_growSilent 18 = J_callS S_X6_has 2 21 := ftl_X0_growSilent_18
theorem ft_X0_growSilent_21 : F_X0_growSilent 21 = J_ifeq 85 24 := ftl_X0_growSilent_21
theorem ft_X0_growSilent_24 : F_X0_growSilent 24 = J_aload 1 25 := ftl_X0_growSilent_24
theorem ft_X0_growSilent_25 : F_X0_growSilent 25 = J_iload 4 27 := ftl_X0_growSilent_25
theorem ft_X0_growSilent_27 : F_X0_growSilent 27 = J_callV 4 S_X4_isLive 1 30 := ftl_X0_growSilent_27
theorem ft_X0_growSilent_30 : F_X0_growSilent 30 = J_ifeq 85 33 := ftl_X0_growSilent_30
theorem ft_X0_growSilent_33 : F_X0_growSilent 33 = J_aload 0 34 := ftl_X0_growSilent_33
theorem ft_X0_growSilent_34 : F_X0_growSilent 34 = J_aload 1 35 := ftl_X0_growSilent_34
theorem ft_X0_growSilent_35 : F_X0_growSilent 35 = J_iload 4 37 := ftl_X0_growSilent_35
theorem ft_X0_growSilent_37 : F_X0_growSilent 37 = J_iload 3 38 := ftl_X0_growSilent_37
theorem ft_X0_growSilent_38 : F_X0_growSilent 38 = J_callV 0 S_X0_kindAt 3 41 := ftl_X0_growSilent_38
theorem ft_X0_growSilent_41 : F_X0_growSilent 41 = J_iconst 2 42 := ftl_X0_growSilent_41
theorem ft_X0_growSilent_42 : F_X0_growSilent 42 = J_iceq 85 45 := ftl_X0_growSilent_42
theorem ft_X0_growSilent_45 : F_X0_growSilent 45 = J_aload 1 46 := ftl_X0_growSilent_45
theorem ft_X0_growSilent_46 : F_X0_growSilent 46 = J_iload 4 48 := ftl_X0_growSilent_46
theorem ft_X0_growSilent_48 : F_X0_growSilent 48 = J_iconst 4 49 := ftl_X0_growSilent_48
theorem ft_X0_growSilent_49 : F_X0_growSilent 49 = J_callV 4 S_X4_get 2 52 := ftl_X0_growSilent_49
theorem ft_X0_growSilent_52 : F_X0_growSilent 52 = J_iconst 1 53 := ftl_X0_growSilent_52
theorem ft_X0_growSilent_53 : F_X0_growSilent 53 = J_iadd 54 := ftl_X0_growSilent_53
theorem ft_X0_growSilent_54 : F_X0_growSilent 54 = J_istore 5 56 := ftl_X0_growSilent_54
theorem ft_X0_growSilent_56 : F_X0_growSilent 56 = J_aload 1 57 := ftl_X0_growSilent_56
theorem ft_X0_growSilent_57 : F_X0_growSilent 57 = J_iload 4 59 := ftl_X0_growSilent_57
theorem ft_X0_growSilent_59 : F_X0_growSilent 59 = J_iconst 4 60 := ftl_X0_growSilent_59
theorem ft_X0_growSilent_60 : F_X0_growSilent 60 = J_iload 5 62 := ftl_X0_growSilent_60
theorem ft_X0_growSilent_62 : F_X0_growSilent 62 = J_callV 4 S_X4_set 3 65 := ftl_X0_growSilent_62
theorem ft_X0_growSilent_65 : F_X0_growSilent 65 = J_iload 5 67 := ftl_X0_growSilent_65
theorem ft_X0_growSilent_67 : F_X0_growSilent 67 = J_aload 0 68 := ftl_X0_growSilent_67
theorem ft_X0_growSilent_68 : F_X0_growSilent 68 = J_getfield 0 0 71 := ftl_X0_growSilent_68
theorem ft_X0_growSilent_71 : F_X0_growSilent 71 = J_getfield 3 5 74 := ftl_X0_growSilent_71
theorem ft_X0_growSilent_74 : F_X0_growSilent 74 = J_icle 85 77 := ftl_X0_growSilent_74
theorem ft_X0_growSilent_77 : F_X0_growSilent 77 = J_aload 1 78 := ftl_X0_growSilent_77
theorem ft_X0_growSilent_78 : F_X0_growSilent 78 = J_iload 4 80 := ftl_X0_growSilent_78
theorem ft_X0_growSilent_80 : F_X0_growSilent 80 = J_iconst 2 81 := ftl_X0_growSilent_80
theorem ft_X0_growSilent_81 : F_X0_growSilent 81 = J_iconst 4 82 := ftl_X0_growSilent_81
theorem ft_X0_growSilent_82 : F_X0_growSilent 82 = J_callV 4 S_X4_set 3 85 := ftl_X0_growSilent_82
theorem ft_X0_growSilent_85 : F_X0_growSilent 85 = J_iinc 4 1 88 := ftl_X0_growSilent_85
theorem ft_X0_growSilent_88 : F_X0_growSilent 88 = J_goto 3 := ftl_X0_growSilent_88
theorem ft_X0_growSilent_91 : F_X0_growSilent 91 = J_return 0 0 := ftl_X0_growSilent_91
theorem lp_X0_growSilent {Q : jQ} {C : Nat → Nat → Int32} {z : Nat → Int64} {nb s P : Nat} {sil l : Int32} (hs : jSt s 94) (hP : C 3 2 = nI P) (hP4 : P ≤ 4) (h : Q none (memS 94 (hrow C s (foldP (silStep (C 5) (C 3 5) sil l) (C s) P)) z)) :
    ∀ k j, j + k = P → ∀ o : Option Value, Rn Y_X0_growSilent none Q 3 [some (.ref 6), some (.ref s), some (.int sil), some (.int l), some (.int (nI j)), o] [] (memS 94 (hrow C s (foldP (silStep (C 5) (C 3 5) sil l) (C s) j)) z) (nb, 0, 0) := by
  intro k
  induction k with
  | zero =>
    intro j hj o
    have hc : (nI P ≤ nI j) = True := eq_true (nI_le (by omega) (by omega))
    refine jrun_first OK_X0_growSilent (C := [3]) 60 ?_
    simp -implicitDefEqProofs only [jr_0, jr_1, jr_2, j_iconst, j_lconst, j_iload0, j_aload0, j_istore0, j_astore0, j_iinc0, j_iload1, j_aload1, j_istore1, j_astore1, j_iinc1, j_iload2, j_aload2, j_istore2, j_astore2, j_iinc2, j_iload3, j_aload3, j_istore3, j_astore3, j_iinc3, j_iload4, j_aload4, j_istore4, j_astore4, j_iinc4, j_iload5, j_aload5, j_istore5, j_astore5, j_iinc5, j_iload6, j_aload6, j_istore6, j_astore6, j_iinc6, j_iload7, j_aload7, j_istore7, j_astore7, j_iinc7, j_iload8, j_aload8, j_istore8, j_astore8, j_iinc8, j_iadd, j_isub, j_imul, j_iand, j_ior, j_ixor, j_ishl, j_ishr, j_iushr, j_idiv, j_irem, j_ineg, j_ladd, j_lmul, j_land, j_lor, j_lcmp, j_lushr, j_lshl, j_i2l, j_l2i, j_dupI, j_dupR, j_popI, j_dup2, j_ifeq, j_iceq, j_ifne, j_icne, j_iflt, j_iclt, j_ifge, j_icge, j_ifgt, j_icgt, j_ifle, j_icle, j_goto, j_tsw, j_sw0, j_sw1, j_ireturn, j_zreturn, j_lreturn, j_return, j_getfield, j_putI, j_putJ, j_putR, j_iaload, j_baload, j_iastore, j_bastore, j_aaload, j_q, j_aastore, j_acopy, j_mmin, j_mmax, j_mabs, j_objinit, j_new, j_newI, j_newQ, j_sld, j_slen, j_callV0, j_callI0, j_callS0, j_callV1, j_callI1, j_callS1, j_callV2, j_callI2, j_callS2, j_callV3, j_callS3, j_callV4, j_callS4, j_callV5, j_callS5, j_pushS, j_pushN, j_sh0, j_sh1, j_sh2, j_sh3, j_sh4, Int32.reduceAdd, Int32.reduceMul, Int32.reduceSub, Int32.reduceLT, Int32.reduceLE, eq_self, i32_10, i32_01, ne_eq, hrow_s, hrow_n, ne10, ne100, ne1000, ne7, ne4, ne14, ne9973, or_true, true_or, or_false, false_or, not_true_eq_false, not_false_eq_true, false_implies, implies_true, and_true, forall_const, true_implies, jargs_n, jargs_r, jargs_i, List.cons_append, List.nil_append, true_and, Nat.reduceEqDiff, reduceIte, ft_X0_growSilent_0, ft_X0_growSilent_1, ft_X0_growSilent_3, ft_X0_growSilent_5, ft_X0_growSilent_6, ft_X0_growSilent_9, ft_X0_growSilent_12, ft_X0_growSilent_15, ft_X0_growSilent_16, ft_X0_growSilent_18, ft_X0_growSilent_21, ft_X0_growSilent_24, ft_X0_growSilent_25, ft_X0_growSilent_27, ft_X0_growSilent_30, ft_X0_growSilent_33, ft_X0_growSilent_34, ft_X0_growSilent_35, ft_X0_growSilent_37, ft_X0_growSilent_38, ft_X0_growSilent_41, ft_X0_growSilent_42, ft_X0_growSilent_45, ft_X0_growSilent_46, ft_X0_growSilent_48, ft_X0_growSilent_49, ft_X0_growSilent_52, ft_X0_growSilent_53, ft_X0_growSilent_54, ft_X0_growSilent_56, ft_X0_growSilent_57, ft_X0_growSilent_59, ft_X0_growSilent_60, ft_X0_growSilent_62, ft_X0_growSilent_65, ft_X0_growSilent_67, ft_X0_growSilent_68, ft_X0_growSilent_71, ft_X0_growSilent_74, ft_X0_growSilent_77, ft_X0_growSilent_78, ft_X0_growSilent_80, ft_X0_growSilent_81, ft_X0_growSilent_82, ft_X0_growSilent_85, ft_X0_growSilent_88, ft_X0_growSilent_91, fl_6_0, fl_3_2, (jst_ne hs).1, hP, hc]
    rw [show j = P by omega]
    exact h
  | succ k ih =>
    intro j hj o
    have hc : (nI P ≤ nI j) = False := eq_false (nI_ge (by omega) (by omega))
    have hk : ∀ o : Option Value, Rn Y_X0_growSilent none Q 3 [some (.ref 6), some (.ref s), some (.int sil), some (.int l), some (.int (nI (j + 1))), o] [] (memS 94 (hrow C s (silStep (C 5) (C 3 5) sil l (nI j) (foldP (silStep (C 5) (C 3 5) sil l) (C s) j))) z) (nb, 0, 0) := fun o => ih (j + 1) (by omega) o
    refine jrun_first OK_X0_growSilent (C := [3]) 80 ?_
    generalize foldP (silStep (C 5) (C 3 5) sil l) (C s) j = ρ at hk ⊢
    simp -implicitDefEqProofs only [jr_0, jr_1, jr_2, j_iconst, j_lconst, j_iload0, j_aload0, j_istore0, j_astore0, j_iinc0, j_iload1, j_aload1, j_istore1, j_astore1, j_iinc1, j_iload2, j_aload2, j_istore2, j_astore2, j_iinc2, j_iload3, j_aload3, j_istore3, j_astore3, j_iinc3, j_iload4, j_aload4, j_istore4, j_astore4, j_iinc4, j_iload5, j_aload5, j_istore5, j_astore5, j_iinc5, j_iload6, j_aload6, j_istore6, j_astore6, j_iinc6, j_iload7, j_aload7, j_istore7, j_astore7, j_iinc7, j_iload8, j_aload8, j_istore8, j_astore8, j_iinc8, j_iadd, j_isub, j_imul, j_iand, j_ior, j_ixor, j_ishl, j_ishr, j_iushr, j_idiv, j_irem, j_ineg, j_ladd, j_lmul, j_land, j_lor, j_lcmp, j_lushr, j_lshl, j_i2l, j_l2i, j_dupI, j_dupR, j_popI, j_dup2, j_ifeq, j_iceq, j_ifne, j_icne, j_iflt, j_iclt, j_ifge, j_icge, j_ifgt, j_icgt, j_ifle, j_icle, j_goto, j_tsw, j_sw0, j_sw1, j_ireturn, j_zreturn, j_lreturn, j_return, j_getfield, j_putI, j_putJ, j_putR, j_iaload, j_baload, j_iastore, j_bastore, j_aaload, j_q, j_aastore, j_acopy, j_mmin, j_mmax, j_mabs, j_objinit, j_new, j_newI, j_newQ, j_sld, j_slen, j_callV0, j_callI0, j_callS0, j_callV1, j_callI1, j_callS1, j_callV2, j_callI2, j_callS2, j_callV3, j_callS3, j_callV4, j_callS4, j_callV5, j_callS5, j_pushS, j_pushN, j_sh0, j_sh1, j_sh2, j_sh3, j_sh4, Int32.reduceAdd, Int32.reduceMul, Int32.reduceSub, Int32.reduceLT, Int32.reduceLE, eq_self, i32_10, i32_01, ne_eq, hrow_s, hrow_n, ne10, ne100, ne1000, ne7, ne4, ne14, ne9973, or_true, true_or, or_false, false_or, not_true_eq_false, not_false_eq_true, false_implies, implies_true, and_true, forall_const, true_implies, jargs_n, jargs_r, jargs_i, List.cons_append, List.nil_append, true_and, Nat.reduceEqDiff, reduceIte, ft_X0_growSilent_0, ft_X0_growSilent_1, ft_X0_growSilent_3, ft_X0_growSilent_5, ft_X0_growSilent_6, ft_X0_growSilent_9, ft_X0_growSilent_12, ft_X0_growSilent_15, ft_X0_growSilent_16, ft_X0_growSilent_18, ft_X0_growSilent_21, ft_X0_growSilent_24, ft_X0_growSilent_25, ft_X0_growSilent_27, ft_X0_growSilent_30, ft_X0_growSilent_33, ft_X0_growSilent_34, ft_X0_growSilent_35, ft_X0_growSilent_37, ft_X0_growSilent_38, ft_X0_growSilent_41, ft_X0_growSilent_42, ft_X0_growSilent_45, ft_X0_growSilent_46, ft_X0_growSilent_48, ft_X0_growSilent_49, ft_X0_growSilent_52, ft_X0_growSilent_53, ft_X0_growSilent_54, ft_X0_growSilent_56, ft_X0_growSilent_57, ft_X0_growSilent_59, ft_X0_growSilent_60, ft_X0_growSilent_62, ft_X0_growSilent_65, ft_X0_growSilent_67, ft_X0_growSilent_68, ft_X0_growSilent_71, ft_X0_growSilent_74, ft_X0_growSilent_77, ft_X0_growSilent_78, ft_X0_growSilent_80, ft_X0_growSilent_81, ft_X0_growSilent_82, ft_X0_growSilent_85, ft_X0_growSilent_88, ft_X0_growSilent_91, fl_6_0, fl_3_2, fl_3_5, rc_6, (jst_ne hs).1, (jst_ne hs).2.2.1, hP, hc, nI_1, s_X6_hasP, s_X4_liveP hs, s_X0_kindAt hs, s_X4_get hs, s_X4_set hs, jrcv_st hs, hrow_hrow, zb_0]
    unfold silStep at hk
    by_cases h1 : hasP sil (nI j) <;> by_cases h2 : liveP ρ (nI j) <;> by_cases h3 : kdF (C 5) ρ (nI j) l = 2 <;> by_cases h4 : rget ρ (nI j) 4 + 1 ≤ C 3 5 <;> simp [pick, h1, h2, h3, h4] at hk ⊢ <;> exact hk _
theorem ok_X0_growSilent : jMeets Y_X0_growSilent S_X0_growSilent := by
  intro nb vs mem Q h
  obtain ⟨C, z, s, P, sil, l, rfl, rfl, hs, hP, hP4, hQ⟩ := h
  refine Ok.run OK_X0_growSilent [3] 60 [none, none] pn0 (Nat.le_of_ble_eq_true rfl) rfl ?_
  simp -implicitDefEqProofs only [jr_0, jr_1, jr_2, j_iconst, j_lconst, j_iload0, j_aload0, j_istore0, j_astore0, j_iinc0, j_iload1, j_aload1, j_istore1, j_astore1, j_iinc1, j_iload2, j_aload2, j_istore2, j_astore2, j_iinc2, j_iload3, j_aload3, j_istore3, j_astore3, j_iinc3, j_iload4, j_aload4, j_istore4, j_astore4, j_iinc4, j_iload5, j_aload5, j_istore5, j_astore5, j_iinc5, j_iload6, j_aload6, j_istore6, j_astore6, j_iinc6, j_iload7, j_aload7, j_istore7, j_astore7, j_iinc7, j_iload8, j_aload8, j_istore8, j_astore8, j_iinc8, j_iadd, j_isub, j_imul, j_iand, j_ior, j_ixor, j_ishl, j_ishr, j_iushr, j_idiv, j_irem, j_ineg, j_ladd, j_lmul, j_land, j_lor, j_lcmp, j_lushr, j_lshl, j_i2l, j_l2i, j_dupI, j_dupR, j_popI, j_dup2, j_ifeq, j_iceq, j_ifne, j_icne, j_iflt, j_iclt, j_ifge, j_icge, j_ifgt, j_icgt, j_ifle, j_icle, j_goto, j_tsw, j_sw0, j_sw1, j_ireturn, j_zreturn, j_lreturn, j_return, j_getfield, j_putI, j_putJ, j_putR, j_iaload, j_baload, j_iastore, j_bastore, j_aaload, j_q, j_aastore, j_acopy, j_mmin, j_mmax, j_mabs, j_objinit, j_new, j_newI, j_newQ, j_sld, j_slen, j_callV0, j_callI0, j_callS0, j_callV1, j_callI1, j_callS1, j_callV2, j_callI2, j_callS2, j_callV3, j_callS3, j_callV4, j_callS4, j_callV5, j_callS5, j_pushS, j_pushN, j_sh0, j_sh1, j_sh2, j_sh3, j_sh4, Int32.reduceAdd, Int32.reduceMul, Int32.reduceSub, Int32.reduceLT, Int32.reduceLE, eq_self, i32_10, i32_01, ne_eq, hrow_s, hrow_n, ne10, ne100, ne1000, ne7, ne4, ne14, ne9973, or_true, true_or, or_false, false_or, not_true_eq_false, not_false_eq_true, false_implies, implies_true, and_true, forall_const, true_implies, jargs_n, jargs_r, jargs_i, List.cons_append, List.nil_append, true_and, Nat.reduceEqDiff, reduceIte, ft_X0_growSilent_0, ft_X0_growSilent_1, ft_X0_growSilent_3, ft_X0_growSilent_5, ft_X0_growSilent_6, ft_X0_growSilent_9, ft_X0_growSilent_12, ft_X0_growSilent_15, ft_X0_growSilent_16, ft_X0_growSilent_18, ft_X0_growSilent_21, ft_X0_growSilent_24, ft_X0_growSilent_25, ft_X0_growSilent_27, ft_X0_growSilent_30, ft_X0_growSilent_33, ft_X0_growSilent_34, ft_X0_growSilent_35, ft_X0_growSilent_37, ft_X0_growSilent_38, ft_X0_growSilent_41, ft_X0_growSilent_42, ft_X0_growSilent_45, ft_X0_growSilent_46, ft_X0_growSilent_48, ft_X0_growSilent_49, ft_X0_growSilent_52, ft_X0_growSilent_53, ft_X0_growSilent_54, ft_X0_growSilent_56, ft_X0_growSilent_57, ft_X0_growSilent_59, ft_X0_growSilent_60, ft_X0_growSilent_62, ft_X0_growSilent_65, ft_X0_growSilent_67, ft_X0_growSilent_68, ft_X0_growSilent_71, ft_X0_growSilent_74, ft_X0_growSilent_77, ft_X0_growSilent_78, ft_X0_growSilent_80, ft_X0_growSilent_81, ft_X0_growSilent_82, ft_X0_growSilent_85, ft_X0_growSilent_88, ft_X0_growSilent_91]
  have := lp_X0_growSilent hs hP hP4 hQ P 0 (by omega) none (nb := nb)
  rw [show foldP (silStep (C 5) (C 3 5) sil l) (C s) 0 = C s from rfl, hrow_self] at this
  exact this
theorem s_X0_growSilent {nb s P : Nat} {C : Nat → Nat → Int32} {z : Nat → Int64} {sil l : Int32} {Q : jQ} (hs : jSt s 94) (hP : C 3 2 = nI P) (hP4 : P ≤ 4) (hQ : Q none (memS 94 (hrow C s (foldP (silStep (C 5) (C 3 5) sil l) (C s) P)) z)) : S_X0_growSilent nb [.ref 6, .ref s, .int sil, .int l] (memS 94 C z) Q := ⟨C, z, s, P, sil, l, rfl, rfl, hs, hP, hP4, hQ⟩
