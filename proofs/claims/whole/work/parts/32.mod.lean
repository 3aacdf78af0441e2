/-! the model: rows now 78 and trial 79, small methods -/
def jMr (r : Nat) : Prop := r = 78 ∨ r = 79
theorem jmr78 : jMr 78 := Or.inl rfl
theorem jmr79 : jMr 79 := Or.inr rfl
theorem al_r {C : Nat → Nat → Int32} {z : Nat → Int64} {r : Nat} (h : jMr r) {i : Int32} {P : Int32 → Prop} : jald (memS 94 C z) r false i P = (vp_in i 40 ∧ P (C r i.toNatClampNeg)) := by
  rcases h with rfl | rfl
  · exact al_78
  · exact al_79
theorem as_r {C : Nat → Nat → Int32} {z : Nat → Int64} {r : Nat} (h : jMr r) {i x : Int32} {P : jM → Prop} : jast (memS 94 C z) r false i x P = (vp_in i 40 ∧ P (memS 94 (hrow C r (upd (C r) i.toNatClampNeg x)) z)) := by
  rcases h with rfl | rfl
  · exact as_78
  · exact as_79
theorem ar_ix {C : Nat → Nat → Int32} {z : Nat → Int64} {r k : Nat} {i : Int32} (h : jMr r) (hk : k < 40) (hi : i = nI k) {P : Int32 → Prop} : jald (memS 94 C z) r false i P = P (C r k) := by
  rw [al_r h, hi, nI_clamp (by omega), eq_and (vp_in_nI hk (by decide))]
theorem aw_ix {C : Nat → Nat → Int32} {z : Nat → Int64} {r k : Nat} {i x : Int32} (h : jMr r) (hk : k < 40) (hi : i = nI k) {P : jM → Prop} : jast (memS 94 C z) r false i x P = P (memS 94 (hrow C r (upd (C r) k x)) z) := by
  rw [as_r h, hi, nI_clamp (by omega), eq_and (vp_in_nI hk (by decide))]
section MR
variable {C : Nat → Nat → Int32} {z : Nat → Int64} {r j : Nat}
theorem ar_0 (h : jMr r) (hj : j < 4) {P : Int32 → Prop} : jald (memS 94 C z) r false (0 + nI j) P = P (C r (j)) := ar_ix h (by omega) (by rw [show (0 : Int32) = nI 0 from rfl, nI_add, Nat.zero_add])
theorem aw_0 (h : jMr r) (hj : j < 4) {x : Int32} {P : jM → Prop} : jast (memS 94 C z) r false (0 + nI j) x P = P (memS 94 (hrow C r (upd (C r) (j) x)) z) := aw_ix h (by omega) (by rw [show (0 : Int32) = nI 0 from rfl, nI_add, Nat.zero_add])
theorem ar_4 (h : jMr r) (hj : j < 4) {P : Int32 → Prop} : jald (memS 94 C z) r false (4 + nI j) P = P (C r (4 + j)) := ar_ix h (by omega) (nI_add 4 j)
theorem aw_4 (h : jMr r) (hj : j < 4) {x : Int32} {P : jM → Prop} : jast (memS 94 C z) r false (4 + nI j) x P = P (memS 94 (hrow C r (upd (C r) (4 + j) x)) z) := aw_ix h (by omega) (nI_add 4 j)
theorem ar_8 (h : jMr r) (hj : j < 4) {P : Int32 → Prop} : jald (memS 94 C z) r false (8 + nI j) P = P (C r (8 + j)) := ar_ix h (by omega) (nI_add 8 j)
theorem aw_8 (h : jMr r) (hj : j < 4) {x : Int32} {P : jM → Prop} : jast (memS 94 C z) r false (8 + nI j) x P = P (memS 94 (hrow C r (upd (C r) (8 + j) x)) z) := aw_ix h (by omega) (nI_add 8 j)
theorem ar_12 (h : jMr r) (hj : j < 4) {P : Int32 → Prop} : jald (memS 94 C z) r false (12 + nI j) P = P (C r (12 + j)) := ar_ix h (by omega) (nI_add 12 j)
theorem aw_12 (h : jMr r) (hj : j < 4) {x : Int32} {P : jM → Prop} : jast (memS 94 C z) r false (12 + nI j) x P = P (memS 94 (hrow C r (upd (C r) (12 + j) x)) z) := aw_ix h (by omega) (nI_add 12 j)
theorem ar_16 (h : jMr r) (hj : j < 4) {P : Int32 → Prop} : jald (memS 94 C z) r false (16 + nI j) P = P (C r (16 + j)) := ar_ix h (by omega) (nI_add 16 j)
theorem aw_16 (h : jMr r) (hj : j < 4) {x : Int32} {P : jM → Prop} : jast (memS 94 C z) r false (16 + nI j) x P = P (memS 94 (hrow C r (upd (C r) (16 + j) x)) z) := aw_ix h (by omega) (nI_add 16 j)
theorem ar_20 (h : jMr r) (hj : j < 4) {P : Int32 → Prop} : jald (memS 94 C z) r false (20 + nI j) P = P (C r (20 + j)) := ar_ix h (by omega) (nI_add 20 j)
theorem aw_20 (h : jMr r) (hj : j < 4) {x : Int32} {P : jM → Prop} : jast (memS 94 C z) r false (20 + nI j) x P = P (memS 94 (hrow C r (upd (C r) (20 + j) x)) z) := aw_ix h (by omega) (nI_add 20 j)
theorem ar_24 (h : jMr r) (hj : j < 4) {P : Int32 → Prop} : jald (memS 94 C z) r false (24 + nI j) P = P (C r (24 + j)) := ar_ix h (by omega) (nI_add 24 j)
theorem aw_24 (h : jMr r) (hj : j < 4) {x : Int32} {P : jM → Prop} : jast (memS 94 C z) r false (24 + nI j) x P = P (memS 94 (hrow C r (upd (C r) (24 + j) x)) z) := aw_ix h (by omega) (nI_add 24 j)
theorem ar_28 (h : jMr r) (hj : j < 4) {P : Int32 → Prop} : jald (memS 94 C z) r false (28 + nI j) P = P (C r (28 + j)) := ar_ix h (by omega) (nI_add 28 j)
theorem aw_28 (h : jMr r) (hj : j < 4) {x : Int32} {P : jM → Prop} : jast (memS 94 C z) r false (28 + nI j) x P = P (memS 94 (hrow C r (upd (C r) (28 + j) x)) z) := aw_ix h (by omega) (nI_add 28 j)
theorem ar_32 (h : jMr r) (hj : j < 6) {P : Int32 → Prop} : jald (memS 94 C z) r false (32 + nI j) P = P (C r (32 + j)) := ar_ix h (by omega) (nI_add 32 j)
theorem aw_32 (h : jMr r) (hj : j < 6) {x : Int32} {P : jM → Prop} : jast (memS 94 C z) r false (32 + nI j) x P = P (memS 94 (hrow C r (upd (C r) (32 + j) x)) z) := aw_ix h (by omega) (nI_add 32 j)
theorem ar_38 (h : jMr r) {P : Int32 → Prop} : jald (memS 94 C z) r false 38 P = P (C r 38) := ar_ix h (by decide) rfl
theorem ar_39 (h : jMr r) {P : Int32 → Prop} : jald (memS 94 C z) r false 39 P = P (C r 39) := ar_ix h (by decide) rfl
theorem aw_38 (h : jMr r) {x : Int32} {P : jM → Prop} : jast (memS 94 C z) r false 38 x P = P (memS 94 (hrow C r (upd (C r) 38 x)) z) := aw_ix h (by decide) rfl
theorem aw_39 (h : jMr r) {x : Int32} {P : jM → Prop} : jast (memS 94 C z) r false 39 x P = P (memS 94 (hrow C r (upd (C r) 39 x)) z) := aw_ix h (by decide) rfl
theorem jmr_n (h : jMr r) {a : Nat} (ha : (a != 78 && a != 79) = true) : (a = r) = False := eq_false (by simp at ha; rcases h with rfl | rfl <;> omega)
end MR
section JN
variable {r : Nat}
theorem jn_3 (h : jMr r) : (3 = r) = False := jmr_n h rfl
theorem jn_4 (h : jMr r) : (4 = r) = False := jmr_n h rfl
theorem jn_5 (h : jMr r) : (5 = r) = False := jmr_n h rfl
theorem jn_71 (h : jMr r) : (71 = r) = False := jmr_n h rfl
theorem jn_72 (h : jMr r) : (72 = r) = False := jmr_n h rfl
theorem jn_73 (h : jMr r) : (73 = r) = False := jmr_n h rfl
theorem jn_74 (h : jMr r) : (74 = r) = False := jmr_n h rfl
theorem jn_75 (h : jMr r) : (75 = r) = False := jmr_n h rfl
theorem jn_76 (h : jMr r) : (76 = r) = False := jmr_n h rfl
theorem jn_77 (h : jMr r) : (77 = r) = False := jmr_n h rfl
theorem jn_80 (h : jMr r) : (80 = r) = False := jmr_n h rfl
theorem jn_81 (h : jMr r) : (81 = r) = False := jmr_n h rfl
theorem jn_82 (h : jMr r) : (82 = r) = False := jmr_n h rfl
theorem jn_83 (h : jMr r) : (83 = r) = False := jmr_n h rfl
theorem jn_84 (h : jMr r) : (84 = r) = False := jmr_n h rfl
theorem jn_85 (h : jMr r) : (85 = r) = False := jmr_n h rfl
theorem jn_86 (h : jMr r) : (86 = r) = False := jmr_n h rfl
theorem jn_87 (h : jMr r) : (87 = r) = False := jmr_n h rfl
theorem jn_88 (h : jMr r) : (88 = r) = False := jmr_n h rfl
theorem jn_89 (h : jMr r) : (89 = r) = False := jmr_n h rfl
theorem jn_90 (h : jMr r) : (90 = r) = False := jmr_n h rfl
theorem jn_91 (h : jMr r) : (91 = r) = False := jmr_n h rfl
theorem jn_92 (h : jMr r) : (92 = r) = False := jmr_n h rfl
theorem jn_93 (h : jMr r) : (93 = r) = False := jmr_n h rfl
end JN
def F_X7_in_0 : Nat → jT := fun pc => (bif Nat.blt pc 7 then (bif Nat.blt pc 2 then (bif Nat.blt pc 1 then (bif Nat.beq pc 0 then J_iload 0 1 else jbad) else (bif Nat.beq pc 1 then J_iload 1 2 else jbad)) else (bif Nat.blt pc 5 then (bif Nat.beq pc 2 then J_iclt 14 5 else jbad) else (bif Nat.blt pc 6 then (bif Nat.beq pc 5 then J_iload 0 6 else jbad) else (bif Nat.beq pc 6 then J_iload 2 7 else jbad)))) else (bif Nat.blt pc 11 then (bif Nat.blt pc 10 then (bif Nat.beq pc 7 then J_icgt 14 10 else jbad) else (bif Nat.beq pc 10 then J_iconst 1 11 else jbad)) else (bif Nat.blt pc 14 then (bif Nat.beq pc 11 then J_goto 15 else jbad) else (bif Nat.blt pc 15 then (bif Nat.beq pc 14 then J_iconst 0 15 else jbad) else (bif Nat.beq pc 15 then J_zreturn 0 0 else jbad)))))
theorem ftl_X7_in_0 : F_X7_in_0 0 = J_iload 0 1 := rfl
theorem ftl_X7_in_1 : F_X7_in_0 1 = J_iload 1 2 := rfl
theorem ftl_X7_in_2 : F_X7_in_0 2 = J_iclt 14 5 := rfl
theorem ftl_X7_in_5 : F_X7_in_0 5 = J_iload 0 6 := rfl
theorem ftl_X7_in_6 : F_X7_in_0 6 = J_iload 2 7 := rfl
theorem ftl_X7_in_7 : F_X7_in_0 7 = J_icgt 14 10 := rfl
theorem ftl_X7_in_10 : F_X7_in_0 10 = J_iconst 1 11 := rfl
theorem ftl_X7_in_11 : F_X7_in_0 11 = J_goto 15 := rfl
theorem ftl_X7_in_14 : F_X7_in_0 14 = J_iconst 0 15 := rfl
theorem ftl_X7_in_15 : F_X7_in_0 15 = J_zreturn 0 0 := rfl
theorem F_X7_in_0_ok : jOK Y_X7_in none (F_X7_in_0) := (jOK_node (jOK_node (jOK_node (jOK_leaf (sn_iload_n dX7_in_0 rfl rfl)) (jOK_leaf (sn_iload_n dX7_in_1 rfl rfl))) (jOK_node (jOK_leaf (sn_iclt dX7_in_2 rfl rfl)) (jOK_node (jOK_leaf (sn_iload_n dX7_in_5 rfl rfl)) (jOK_leaf (sn_iload_n dX7_in_6 rfl rfl))))) (jOK_node (jOK_node (jOK_leaf (sn_icgt dX7_in_7 rfl rfl)) (jOK_leaf (sn_iconst dX7_in_10 rfl rfl))) (jOK_node (jOK_leaf (sn_goto dX7_in_11 rfl)) (jOK_node (jOK_leaf (sn_iconst dX7_in_14 rfl rfl)) (jOK_leaf (sn_zreturn dX7_in_15 rfl rfl))))))
def F_X7_in : Nat → jT := F_X7_in_0
theorem OK_X7_in : jOK Y_X7_in none (F_X7_in) := F_X7_in_0_ok
theorem ft_X7_in_0 : F_X7_in 0 = J_iload 0 1 := ftl_X7_in_0
theorem ft_X7_in_1 : F_X7_in 1 = J_iload 1 2 := ftl_X7_in_1
theorem ft_X7_in_2 : F_X7_in 2 = J_iclt 14 5 := ftl_X7_in_2
theorem ft_X7_in_5 : F_X7_in 5 = J_iload 0 6 := ftl_X7_in_5
theorem ft_X7_in_6 : F_X7_in 6 = J_iload 2 7 := ftl_X7_in_6
theorem ft_X7_in_7 : F_X7_in 7 = J_icgt 14 10 := ftl_X7_in_7
theorem ft_X7_in_10 : F_X7_in 10 = J_iconst 1 11 := ftl_X7_in_10
theorem ft_X7_in_11 : F_X7_in 11 = J_goto 15 := ftl_X7_in_11
theorem ft_X7_in_14 : F_X7_in 14 = J_iconst 0 15 := ftl_X7_in_14
theorem ft_X7_in_15 : F_X7_in 15 = J_zreturn 0 0 := ftl_X7_in_15
def S_X7_in : jSp := fun nb vs mem Q => jcs vs ≤ 3 ∧ jrun F_X7_in [] 40 Q (fun _ _ _ _ _ => False) 0 (jargs vs ++ []) [] mem (nb, 0, 0)
theorem ok_X7_in : jMeets Y_X7_in S_X7_in := fun _ _ _ _ h => Ok.inl OK_X7_in 40 [] pn7 rfl h
theorem s_X7_in {nb : Nat} {mem : jM} {x a b : Int32} {Q : jQ} : S_X7_in nb [.int x, .int a, .int b] mem Q = Q (some (.int (zb (a ≤ x ∧ x ≤ b)))) mem := by
  refine (eq_le rfl).trans ?_
  simp -implicitDefEqProofs only [jr_0, jr_1, jr_2, j_iconst, j_lconst, j_iload0, j_aload0, j_istore0, j_astore0, j_iinc0, j_iload1, j_aload1, j_istore1, j_astore1, j_iinc1, j_iload2, j_aload2, j_istore2, j_astore2, j_iinc2, j_iload3, j_aload3, j_istore3, j_astore3, j_iinc3, j_iload4, j_aload4, j_istore4, j_astore4, j_iinc4, j_iload5, j_aload5, j_istore5, j_astore5, j_iinc5, j_iload6, j_aload6, j_istore6, j_astore6, j_iinc6, j_iload7, j_aload7, j_istore7, j_astore7, j_iinc7, j_iload8, j_aload8, j_istore8, j_astore8, j_iinc8, j_iadd, j_isub, j_imul, j_iand, j_ior, j_ixor, j_ishl, j_ishr, j_iushr, j_idiv, j_irem, j_ineg, j_ladd, j_lmul, j_land, j_lor, j_lcmp, j_lushr, j_lshl, j_i2l, j_l2i, j_dupI, j_dupR, j_popI, j_dup2, j_ifeq, j_iceq, j_ifne, j_icne, j_iflt, j_iclt, j_ifge, j_icge, j_ifgt, j_icgt, j_ifle, j_icle, j_goto, j_tsw, j_sw0, j_sw1, j_ireturn, j_zreturn, j_lreturn, j_return, j_getfield, j_putI, j_putJ, j_putR, j_iaload, j_baload, j_iastore, j_bastore, j_aaload, j_q, j_aastore, j_acopy, j_mmin, j_mmax, j_mabs, j_objinit, j_new, j_newI, j_newQ, j_sld, j_slen, j_callV0, j_callI0, j_callS0, j_callV1, j_callI1, j_callS1, j_callV2, j_callI2, j_callS2, j_callV3, j_callS3, j_callV4, j_callS4, j_callV5, j_callS5, j_pushS, j_pushN, j_sh0, j_sh1, j_sh2, j_sh3, j_sh4, Int32.reduceAdd, Int32.reduceMul, Int32.reduceSub, Int32.reduceLT, Int32.reduceLE, eq_self, i32_10, i32_01, ne_eq, hrow_s, hrow_n, ne10, ne100, ne1000, ne7, ne4, ne14, ne9973, or_true, true_or, or_false, false_or, not_true_eq_false, not_false_eq_true, false_implies, implies_true, and_true, forall_const, true_implies, jargs_n, jargs_r, jargs_i, List.cons_append, List.nil_append, true_and, Nat.reduceEqDiff, reduceIte, ft_X7_in_0, ft_X7_in_1, ft_X7_in_2, ft_X7_in_5, ft_X7_in_6, ft_X7_in_7, ft_X7_in_10, ft_X7_in_11, ft_X7_in_14, ft_X7_in_15]
  by_cases h1 : x < a
  · rw [zb_f (fun q => absurd q.1 (Int32.not_le.mpr h1))]
    simp only [h1, not_true_eq_false, not_false_eq_true, true_implies, false_implies, implies_true, and_true, true_and, forall_const]
  · by_cases h2 : b < x
    · rw [zb_f (fun q => absurd q.2 (Int32.not_le.mpr h2))]
      simp only [h1, h2, not_true_eq_false, not_false_eq_true, true_implies, false_implies, implies_true, and_true, true_and, forall_const]
    · rw [zb_t ⟨Int32.not_lt.mp h1, Int32.not_lt.mp h2⟩]
      simp only [h1, h2, not_true_eq_false, not_false_eq_true, true_implies, false_implies, implies_true, and_true, true_and, forall_const]
def F_X7_has_0 : Nat → jT := fun pc => (bif Nat.blt pc 5 then (bif Nat.blt pc 2 then (bif Nat.blt pc 1 then (bif Nat.beq pc 0 then J_iload 0 1 else jbad) else (bif Nat.beq pc 1 then J_iload 1 2 else jbad)) else (bif Nat.blt pc 3 then (bif Nat.beq pc 2 then J_ishr 3 else jbad) else (bif Nat.blt pc 4 then (bif Nat.beq pc 3 then J_iconst 1 4 else jbad) else (bif Nat.beq pc 4 then J_iand 5 else jbad)))) else (bif Nat.blt pc 10 then (bif Nat.blt pc 6 then (bif Nat.beq pc 5 then J_iconst 1 6 else jbad) else (bif Nat.blt pc 9 then (bif Nat.beq pc 6 then J_icne 13 9 else jbad) else (bif Nat.beq pc 9 then J_iconst 1 10 else jbad))) else (bif Nat.blt pc 13 then (bif Nat.beq pc 10 then J_goto 14 else jbad) else (bif Nat.blt pc 14 then (bif Nat.beq pc 13 then J_iconst 0 14 else jbad) else (bif Nat.beq pc 14 then J_zreturn 0 0 else jbad)))))
theorem ftl_X7_has_0 : F_X7_has_0 0 = J_iload 0 1 := rfl
theorem ftl_X7_has_1 : F_X7_has_0 1 = J_iload 1 2 := rfl
theorem ftl_X7_has_2 : F_X7_has_0 2 = J_ishr 3 := rfl
theorem ftl_X7_has_3 : F_X7_has_0 3 = J_iconst 1 4 := rfl
theorem ftl_X7_has_4 : F_X7_has_0 4 = J_iand 5 := rfl
theorem ftl_X7_has_5 : F_X7_has_0 5 = J_iconst 1 6 := rfl
theorem ftl_X7_has_6 : F_X7_has_0 6 = J_icne 13 9 := rfl
theorem ftl_X7_has_9 : F_X7_has_0 9 = J_iconst 1 10 := rfl
theorem ftl_X7_has_10 : F_X7_has_0 10 = J_goto 14 := rfl
theorem ftl_X7_has_13 : F_X7_has_0 13 = J_iconst 0 14 := rfl
theorem ftl_X7_has_14 : F_X7_has_0 14 = J_zreturn 0 0 := rfl
theorem F_X7_has_0_ok : jOK Y_X7_has none (F_X7_has_0) := (jOK_node (jOK_node (jOK_node (jOK_leaf (sn_iload_n dX7_has_0 rfl rfl)) (jOK_leaf (sn_iload_n dX7_has_1 rfl rfl))) (jOK_node (jOK_leaf (sn_ishr dX7_has_2 rfl)) (jOK_node (jOK_leaf (sn_iconst dX7_has_3 rfl rfl)) (jOK_leaf (sn_iand dX7_has_4 rfl))))) (jOK_node (jOK_node (jOK_leaf (sn_iconst dX7_has_5 rfl rfl)) (jOK_node (jOK_leaf (sn_icne dX7_has_6 rfl rfl)) (jOK_leaf (sn_iconst dX7_has_9 rfl rfl)))) (jOK_node (jOK_leaf (sn_goto dX7_has_10 rfl)) (jOK_node (jOK_leaf (sn_iconst dX7_has_13 rfl rfl)) (jOK_leaf (sn_zreturn dX7_has_14 rfl rfl))))))
def F_X7_has : Nat → jT := F_X7_has_0
theorem OK_X7_has : jOK Y_X7_has none (F_X7_has) := F_X7_has_0_ok
theorem ft_X7_has_0 : F_X7_has 0 = J_iload 0 1 := ftl_X7_has_0
theorem ft_X7_has_1 : F_X7_has 1 = J_iload 1 2 := ftl_X7_has_1
theorem ft_X7_has_2 : F_X7_has 2 = J_ishr 3 := ftl_X7_has_2
theorem ft_X7_has_3 : F_X7_has 3 = J_iconst 1 4 := ftl_X7_has_3
theorem ft_X7_has_4 : F_X7_has 4 = J_iand 5 := ftl_X7_has_4
theorem ft_X7_has_5 : F_X7_has 5 = J_iconst 1 6 := ftl_X7_has_5
theorem ft_X7_has_6 : F_X7_has 6 = J_icne 13 9 := ftl_X7_has_6
theorem ft_X7_has_9 : F_X7_has 9 = J_iconst 1 10 := ftl_X7_has_9
theorem ft_X7_has_10 : F_X7_has 10 = J_goto 14 := ftl_X7_has_10
theorem ft_X7_has_13 : F_X7_has 13 = J_iconst 0 14 := ftl_X7_has_13
theorem ft_X7_has_14 : F_X7_has 14 = J_zreturn 0 0 := ftl_X7_has_14
def S_X7_has : jSp := fun nb vs mem Q => jcs vs ≤ 2 ∧ jrun F_X7_has [] 40 Q (fun _ _ _ _ _ => False) 0 (jargs vs ++ []) [] mem (nb, 0, 0)
theorem ok_X7_has : jMeets Y_X7_has S_X7_has := fun _ _ _ _ h => Ok.inl OK_X7_has 40 [] pn7 rfl h
theorem s_X7_has {nb : Nat} {mem : jM} {a k : Int32} {Q : jQ} : S_X7_has nb [.int a, .int k] mem Q = Q (some (.int (zb (hasP a k)))) mem := by
  refine (eq_le rfl).trans ?_
  simp -implicitDefEqProofs only [jr_0, jr_1, jr_2, j_iconst, j_lconst, j_iload0, j_aload0, j_istore0, j_astore0, j_iinc0, j_iload1, j_aload1, j_istore1, j_astore1, j_iinc1, j_iload2, j_aload2, j_istore2, j_astore2, j_iinc2, j_iload3, j_aload3, j_istore3, j_astore3, j_iinc3, j_iload4, j_aload4, j_istore4, j_astore4, j_iinc4, j_iload5, j_aload5, j_istore5, j_astore5, j_iinc5, j_iload6, j_aload6, j_istore6, j_astore6, j_iinc6, j_iload7, j_aload7, j_istore7, j_astore7, j_iinc7, j_iload8, j_aload8, j_istore8, j_astore8, j_iinc8, j_iadd, j_isub, j_imul, j_iand, j_ior, j_ixor, j_ishl, j_ishr, j_iushr, j_idiv, j_irem, j_ineg, j_ladd, j_lmul, j_land, j_lor, j_lcmp, j_lushr, j_lshl, j_i2l, j_l2i, j_dupI, j_dupR, j_popI, j_dup2, j_ifeq, j_iceq, j_ifne, j_icne, j_iflt, j_iclt, j_ifge, j_icge, j_ifgt, j_icgt, j_ifle, j_icle, j_goto, j_tsw, j_sw0, j_sw1, j_ireturn, j_zreturn, j_lreturn, j_return, j_getfield, j_putI, j_putJ, j_putR, j_iaload, j_baload, j_iastore, j_bastore, j_aaload, j_q, j_aastore, j_acopy, j_mmin, j_mmax, j_mabs, j_objinit, j_new, j_newI, j_newQ, j_sld, j_slen, j_callV0, j_callI0, j_callS0, j_callV1, j_callI1, j_callS1, j_callV2, j_callI2, j_callS2, j_callV3, j_callS3, j_callV4, j_callS4, j_callV5, j_callS5, j_pushS, j_pushN, j_sh0, j_sh1, j_sh2, j_sh3, j_sh4, Int32.reduceAdd, Int32.reduceMul, Int32.reduceSub, Int32.reduceLT, Int32.reduceLE, eq_self, i32_10, i32_01, ne_eq, hrow_s, hrow_n, ne10, ne100, ne1000, ne7, ne4, ne14, ne9973, or_true, true_or, or_false, false_or, not_true_eq_false, not_false_eq_true, false_implies, implies_true, and_true, forall_const, true_implies, jargs_n, jargs_r, jargs_i, List.cons_append, List.nil_append, true_and, Nat.reduceEqDiff, reduceIte, ft_X7_has_0, ft_X7_has_1, ft_X7_has_2, ft_X7_has_3, ft_X7_has_4, ft_X7_has_5, ft_X7_has_6, ft_X7_has_9, ft_X7_has_10, ft_X7_has_13, ft_X7_has_14]
  unfold hasP
  by_cases h : a >>> (k &&& 31) &&& 1 = 1
  · rw [zb_t h]; simp only [h, not_true_eq_false, not_false_eq_true, true_implies, false_implies, implies_true, and_true, true_and, forall_const]
  · rw [zb_f h]; simp only [h, not_true_eq_false, not_false_eq_true, true_implies, false_implies, implies_true, and_true, true_and, forall_const]
def S_X7_power : jSp := fun _ vs mem Q => match vs with
  | [.int b, .int n] => Q (some (.int (powF b n.toNatClampNeg))) mem
  | _ => False
theorem s_X7_power {nb : Nat} {mem : jM} {b n : Int32} {Q : jQ} : S_X7_power nb [.int b, .int n] mem Q = Q (some (.int (powF b n.toNatClampNeg))) mem := rfl
def F_X7_power_0 : Nat → jT := fun pc => (bif Nat.blt pc 9 then (bif Nat.blt pc 3 then (bif Nat.blt pc 1 then (bif Nat.beq pc 0 then J_iconst 1 1 else jbad) else (bif Nat.blt pc 2 then (bif Nat.beq pc 1 then J_istore 2 2 else jbad) else (bif Nat.beq pc 2 then J_iconst 0 3 else jbad))) else (bif Nat.blt pc 5 then (bif Nat.blt pc 4 then (bif Nat.beq pc 3 then J_istore 3 4 else jbad) else (bif Nat.beq pc 4 then J_iload 3 5 else jbad)) else (bif Nat.blt pc 6 then (bif Nat.beq pc 5 then J_iload 1 6 else jbad) else (bif Nat.beq pc 6 then J_icge 19 9 else jbad)))) else (bif Nat.blt pc 13 then (bif Nat.blt pc 11 then (bif Nat.blt pc 10 then (bif Nat.beq pc 9 then J_iload 2 10 else jbad) else (bif Nat.beq pc 10 then J_iload 0 11 else jbad)) else (bif Nat.blt pc 12 then (bif Nat.beq pc 11 then J_imul 12 else jbad) else (bif Nat.beq pc 12 then J_istore 2 13 else jbad))) else (bif Nat.blt pc 19 then (bif Nat.blt pc 16 then (bif Nat.beq pc 13 then J_iinc 3 1 16 else jbad) else (bif Nat.beq pc 16 then J_goto 4 else jbad)) else (bif Nat.blt pc 20 then (bif Nat.beq pc 19 then J_iload 2 20 else jbad) else (bif Nat.beq pc 20 then J_ireturn 0 0 else jbad)))))
theorem ftl_X7_power_0 : F_X7_power_0 0 = J_iconst 1 1 := rfl
theorem ftl_X7_power_1 : F_X7_power_0 1 = J_istore 2 2 := rfl
theorem ftl_X7_power_2 : F_X7_power_0 2 = J_iconst 0 3 := rfl
theorem ftl_X7_power_3 : F_X7_power_0 3 = J_istore 3 4 := rfl
theorem ftl_X7_power_4 : F_X7_power_0 4 = J_iload 3 5 := rfl
theorem ftl_X7_power_5 : F_X7_power_0 5 = J_iload 1 6 := rfl
theorem ftl_X7_power_6 : F_X7_power_0 6 = J_icge 19 9 := rfl
theorem ftl_X7_power_9 : F_X7_power_0 9 = J_iload 2 10 := rfl
theorem ftl_X7_power_10 : F_X7_power_0 10 = J_iload 0 11 := rfl
theorem ftl_X7_power_11 : F_X7_power_0 11 = J_imul 12 := rfl
theorem ftl_X7_power_12 : F_X7_power_0 12 = J_istore 2 13 := rfl
theorem ftl_X7_power_13 : F_X7_power_0 13 = J_iinc 3 1 16 := rfl
theorem ftl_X7_power_16 : F_X7_power_0 16 = J_goto 4 := rfl
theorem ftl_X7_power_19 : F_X7_power_0 19 = J_iload 2 20 := rfl
theorem ftl_X7_power_20 : F_X7_power_0 20 = J_ireturn 0 0 := rfl
theorem F_X7_power_0_ok : jOK Y_X7_power none (F_X7_power_0) := (jOK_node (jOK_node (jOK_node (jOK_leaf (sn_iconst dX7_power_0 rfl rfl)) (jOK_node (jOK_leaf (sn_istore_n dX7_power_1 rfl rfl (by decide))) (jOK_leaf (sn_iconst dX7_power_2 rfl rfl)))) (jOK_node (jOK_node (jOK_leaf (sn_istore_n dX7_power_3 rfl rfl (by decide))) (jOK_leaf (sn_iload_n dX7_power_4 rfl rfl))) (jOK_node (jOK_leaf (sn_iload_n dX7_power_5 rfl rfl)) (jOK_leaf (sn_icge dX7_power_6 rfl rfl))))) (jOK_node (jOK_node (jOK_node (jOK_leaf (sn_iload_n dX7_power_9 rfl rfl)) (jOK_leaf (sn_iload_n dX7_power_10 rfl rfl))) (jOK_node (jOK_leaf (sn_imul dX7_power_11 rfl)) (jOK_leaf (sn_istore_n dX7_power_12 rfl rfl (by decide))))) (jOK_node (jOK_node (jOK_leaf (sn_iinc dX7_power_13 rfl rfl (by decide))) (jOK_leaf (sn_goto dX7_power_16 rfl))) (jOK_node (jOK_leaf (sn_iload_n dX7_power_19 rfl rfl)) (jOK_leaf (sn_ireturn dX7_power_20 rfl rfl))))))
def F_X7_power : Nat → jT := F_X7_power_0
theorem OK_X7_power : jOK Y_X7_power none (F_X7_power) := F_X7_power_0_ok
theorem ft_X7_power_0 : F_X7_power 0 = J_iconst 1 1 := ftl_X7_power_0
theorem ft_X7_power_1 : F_X7_power 1 = J_istore 2 2 := ftl_X7_power_1
theorem ft_X7_power_2 : F_X7_power 2 = J_iconst 0 3 := ftl_X7_power_2
theorem ft_X7_power_3 : F_X7_power 3 = J_istore 3 4 := ftl_X7_power_3
theorem ft_X7_power_4 : F_X7_power 4 = J_iload 3 5 := ftl_X7_power_4
theorem ft_X7_power_5 : F_X7_power 5 = J_iload 1 6 := ftl_X7_power_5
theorem ft_X7_power_6 : F_X7_power 6 = J_icge 19 9 := ftl_X7_power_6
theorem ft_X7_power_9 : F_X7_power 9 = J_iload 2 10 := ftl_X7_power_9
theorem ft_X7_power_10 : F_X7_power 10 = J_iload 0 11 := ftl_X7_power_10
theorem ft_X7_power_11 : F_X7_power 11 = J_imul 12 := ftl_X7_power_11
theorem ft_X7_power_12 : F_X7_power 12 = J_istore 2 13 := ftl_X7_power_12
theorem ft_X7_power_13 : F_X7_power 13 = J_iinc 3 1 16 := ftl_X7_power_13
theorem ft_X7_power_16 : F_X7_power 16 = J_goto 4 := ftl_X7_power_16
theorem ft_X7_power_19 : F_X7_power 19 = J_iload 2 20 := ftl_X7_power_19
theorem ft_X7_power_20 : F_X7_power 20 = J_ireturn 0 0 := ftl_X7_power_20
theorem lp_X7_power {Q : jQ} {mem : jM} {nb : Nat} {b n : Int32} (h : Q (some (.int (powF b n.toNatClampNeg))) mem) : ∀ k j, j + k = n.toNatClampNeg → Rn Y_X7_power none Q 4 [some (.int b), some (.int n), some (.int (powF b j)), some (.int (nI j))] [] mem (nb, 0, 0) := by
  intro k
  induction k with
  | zero =>
    intro j hj
    have hc : (n ≤ nI j) = True := eq_true ((i32_le_nI (by have := i32_clt n; omega)).mpr (by omega))
    refine jrun_first OK_X7_power (C := [4]) 40 ?_
    simp -implicitDefEqProofs only [jr_0, jr_1, jr_2, j_iconst, j_lconst, j_iload0, j_aload0, j_istore0, j_astore0, j_iinc0, j_iload1, j_aload1, j_istore1, j_astore1, j_iinc1, j_iload2, j_aload2, j_istore2, j_astore2, j_iinc2, j_iload3, j_aload3, j_istore3, j_astore3, j_iinc3, j_iload4, j_aload4, j_istore4, j_astore4, j_iinc4, j_iload5, j_aload5, j_istore5, j_astore5, j_iinc5, j_iload6, j_aload6, j_istore6, j_astore6, j_iinc6, j_iload7, j_aload7, j_istore7, j_astore7, j_iinc7, j_iload8, j_aload8, j_istore8, j_astore8, j_iinc8, j_iadd, j_isub, j_imul, j_iand, j_ior, j_ixor, j_ishl, j_ishr, j_iushr, j_idiv, j_irem, j_ineg, j_ladd, j_lmul, j_land, j_lor, j_lcmp, j_lushr, j_lshl, j_i2l, j_l2i, j_dupI, j_dupR, j_popI, j_dup2, j_ifeq, j_iceq, j_ifne, j_icne, j_iflt, j_iclt, j_ifge, j_icge, j_ifgt, j_icgt, j_ifle, j_icle, j_goto, j_tsw, j_sw0, j_sw1, j_ireturn, j_zreturn, j_lreturn, j_return, j_getfield, j_putI, j_putJ, j_putR, j_iaload, j_baload, j_iastore, j_bastore, j_aaload, j_q, j_aastore, j_acopy, j_mmin, j_mmax, j_mabs, j_objinit, j_new, j_newI, j_newQ, j_sld, j_slen, j_callV0, j_callI0, j_callS0, j_callV1, j_callI1, j_callS1, j_callV2, j_callI2, j_callS2, j_callV3, j_callS3, j_callV4, j_callS4, j_callV5, j_callS5, j_pushS, j_pushN, j_sh0, j_sh1, j_sh2, j_sh3, j_sh4, Int32.reduceAdd, Int32.reduceMul, Int32.reduceSub, Int32.reduceLT, Int32.reduceLE, eq_self, i32_10, i32_01, ne_eq, hrow_s, hrow_n, ne10, ne100, ne1000, ne7, ne4, ne14, ne9973, or_true, true_or, or_false, false_or, not_true_eq_false, not_false_eq_true, false_implies, implies_true, and_true, forall_const, true_implies, jargs_n, jargs_r, jargs_i, List.cons_append, List.nil_append, true_and, Nat.reduceEqDiff, reduceIte, ft_X7_power_0, ft_X7_power_1, ft_X7_power_2, ft_X7_power_3, ft_X7_power_4, ft_X7_power_5, ft_X7_power_6, ft_X7_power_9, ft_X7_power_10, ft_X7_power_11, ft_X7_power_12, ft_X7_power_13, ft_X7_power_16, ft_X7_power_19, ft_X7_power_20, hc]
    rw [show j = n.toNatClampNeg by omega]
    exact h
  | succ k ih =>
    intro j hj
    have hc : (n ≤ nI j) = False := eq_false fun q => by have := (i32_le_nI (by have := i32_clt n; omega)).mp q; omega
    refine jrun_first OK_X7_power (C := [4]) 40 ?_
    simp -implicitDefEqProofs only [jr_0, jr_1, jr_2, j_iconst, j_lconst, j_iload0, j_aload0, j_istore0, j_astore0, j_iinc0, j_iload1, j_aload1, j_istore1, j_astore1, j_iinc1, j_iload2, j_aload2, j_istore2, j_astore2, j_iinc2, j_iload3, j_aload3, j_istore3, j_astore3, j_iinc3, j_iload4, j_aload4, j_istore4, j_astore4, j_iinc4, j_iload5, j_aload5, j_istore5, j_astore5, j_iinc5, j_iload6, j_aload6, j_istore6, j_astore6, j_iinc6, j_iload7, j_aload7, j_istore7, j_astore7, j_iinc7, j_iload8, j_aload8, j_istore8, j_astore8, j_iinc8, j_iadd, j_isub, j_imul, j_iand, j_ior, j_ixor, j_ishl, j_ishr, j_iushr, j_idiv, j_irem, j_ineg, j_ladd, j_lmul, j_land, j_lor, j_lcmp, j_lushr, j_lshl, j_i2l, j_l2i, j_dupI, j_dupR, j_popI, j_dup2, j_ifeq, j_iceq, j_ifne, j_icne, j_iflt, j_iclt, j_ifge, j_icge, j_ifgt, j_icgt, j_ifle, j_icle, j_goto, j_tsw, j_sw0, j_sw1, j_ireturn, j_zreturn, j_lreturn, j_return, j_getfield, j_putI, j_putJ, j_putR, j_iaload, j_baload, j_iastore, j_bastore, j_aaload, j_q, j_aastore, j_acopy, j_mmin, j_mmax, j_mabs, j_objinit, j_new, j_newI, j_newQ, j_sld, j_slen, j_callV0, j_callI0, j_callS0, j_callV1, j_callI1, j_callS1, j_callV2, j_callI2, j_callS2, j_callV3, j_callS3, j_callV4, j_callS4, j_callV5, j_callS5, j_pushS, j_pushN, j_sh0, j_sh1, j_sh2, j_sh3, j_sh4, Int32.reduceAdd, Int32.reduceMul, Int32.reduceSub, Int32.reduceLT, Int32.reduceLE, eq_self, i32_10, i32_01, ne_eq, hrow_s, hrow_n, ne10, ne100, ne1000, ne7, ne4, ne14, ne9973, or_true, true_or, or_false, false_or, not_true_eq_false, not_false_eq_true, false_implies, implies_true, and_true, forall_const, true_implies, jargs_n, jargs_r, jargs_i, List.cons_append, List.nil_append, true_and, Nat.reduceEqDiff, reduceIte, ft_X7_power_0, ft_X7_power_1, ft_X7_power_2, ft_X7_power_3, ft_X7_power_4, ft_X7_power_5, ft_X7_power_6, ft_X7_power_9, ft_X7_power_10, ft_X7_power_11, ft_X7_power_12, ft_X7_power_13, ft_X7_power_16, ft_X7_power_19, ft_X7_power_20, hc, nI_1]
    exact ih (j + 1) (by omega)
theorem ok_X7_power : jMeets Y_X7_power S_X7_power := by
  intro nb vs mem Q h
  match vs, h with
  | [.int b, .int n], h =>
    refine Ok.run OK_X7_power [4] 40 [none, none] pn7 (Nat.le_of_ble_eq_true rfl) rfl ?_
    simp -implicitDefEqProofs only [jr_0, jr_1, jr_2, j_iconst, j_lconst, j_iload0, j_aload0, j_istore0, j_astore0, j_iinc0, j_iload1, j_aload1, j_istore1, j_astore1, j_iinc1, j_iload2, j_aload2, j_istore2, j_astore2, j_iinc2, j_iload3, j_aload3, j_istore3, j_astore3, j_iinc3, j_iload4, j_aload4, j_istore4, j_astore4, j_iinc4, j_iload5, j_aload5, j_istore5, j_astore5, j_iinc5, j_iload6, j_aload6, j_istore6, j_astore6, j_iinc6, j_iload7, j_aload7, j_istore7, j_astore7, j_iinc7, j_iload8, j_aload8, j_istore8, j_astore8, j_iinc8, j_iadd, j_isub, j_imul, j_iand, j_ior, j_ixor, j_ishl, j_ishr, j_iushr, j_idiv, j_irem, j_ineg, j_ladd, j_lmul, j_land, j_lor, j_lcmp, j_lushr, j_lshl, j_i2l, j_l2i, j_dupI, j_dupR, j_popI, j_dup2, j_ifeq, j_iceq, j_ifne, j_icne, j_iflt, j_iclt, j_ifge, j_icge, j_ifgt, j_icgt, j_ifle, j_icle, j_goto, j_tsw, j_sw0, j_sw1, j_ireturn, j_zreturn, j_lreturn, j_return, j_getfield, j_putI, j_putJ, j_putR, j_iaload, j_baload, j_iastore, j_bastore, j_aaload, j_q, j_aastore, j_acopy, j_mmin, j_mmax, j_mabs, j_objinit, j_new, j_newI, j_newQ, j_sld, j_slen, j_callV0, j_callI0, j_callS0, j_callV1, j_callI1, j_callS1, j_callV2, j_callI2, j_callS2, j_callV3, j_callS3, j_callV4, j_callS4, j_callV5, j_callS5, j_pushS, j_pushN, j_sh0, j_sh1, j_sh2, j_sh3, j_sh4, Int32.reduceAdd, Int32.reduceMul, Int32.reduceSub, Int32.reduceLT, Int32.reduceLE, eq_self, i32_10, i32_01, ne_eq, hrow_s, hrow_n, ne10, ne100, ne1000, ne7, ne4, ne14, ne9973, or_true, true_or, or_false, false_or, not_true_eq_false, not_false_eq_true, false_implies, implies_true, and_true, forall_const, true_implies, jargs_n, jargs_r, jargs_i, List.cons_append, List.nil_append, true_and, Nat.reduceEqDiff, reduceIte, ft_X7_power_0, ft_X7_power_1, ft_X7_power_2, ft_X7_power_3, ft_X7_power_4, ft_X7_power_5, ft_X7_power_6, ft_X7_power_9, ft_X7_power_10, ft_X7_power_11, ft_X7_power_12, ft_X7_power_13, ft_X7_power_16, ft_X7_power_19, ft_X7_power_20]
    exact lp_X7_power h n.toNatClampNeg 0 (by omega)
def S_X7_factorial : jSp := fun _ vs mem Q => match vs with
  | [.int n] => (0 ≤ n ∧ n ≤ 4) ∧ Q (some (.int (facF n))) mem
  | _ => False
theorem s_X7_factorial {nb : Nat} {mem : jM} {n : Int32} {Q : jQ} : S_X7_factorial nb [.int n] mem Q = ((0 ≤ n ∧ n ≤ 4) ∧ Q (some (.int (facF n))) mem) := rfl
def F_X7_factorial_0 : Nat → jT := fun pc => (bif Nat.blt pc 9 then (bif Nat.blt pc 3 then (bif Nat.blt pc 1 then (bif Nat.beq pc 0 then J_iconst 1 1 else jbad) else (bif Nat.blt pc 2 then (bif Nat.beq pc 1 then J_istore 1 2 else jbad) else (bif Nat.beq pc 2 then J_iconst 2 3 else jbad))) else (bif Nat.blt pc 5 then (bif Nat.blt pc 4 then (bif Nat.beq pc 3 then J_istore 2 4 else jbad) else (bif Nat.beq pc 4 then J_iload 2 5 else jbad)) else (bif Nat.blt pc 6 then (bif Nat.beq pc 5 then J_iload 0 6 else jbad) else (bif Nat.beq pc 6 then J_icgt 19 9 else jbad)))) else (bif Nat.blt pc 13 then (bif Nat.blt pc 11 then (bif Nat.blt pc 10 then (bif Nat.beq pc 9 then J_iload 1 10 else jbad) else (bif Nat.beq pc 10 then J_iload 2 11 else jbad)) else (bif Nat.blt pc 12 then (bif Nat.beq pc 11 then J_imul 12 else jbad) else (bif Nat.beq pc 12 then J_istore 1 13 else jbad))) else (bif Nat.blt pc 19 then (bif Nat.blt pc 16 then (bif Nat.beq pc 13 then J_iinc 2 1 16 else jbad) else (bif Nat.beq pc 16 then J_goto 4 else jbad)) else (bif Nat.blt pc 20 then (bif Nat.beq pc 19 then J_iload 1 20 else jbad) else (bif Nat.beq pc 20 then J_ireturn 0 0 else jbad)))))
theorem ftl_X7_factorial_0 : F_X7_factorial_0 0 = J_iconst 1 1 := rfl
theorem ftl_X7_factorial_1 : F_X7_factorial_0 1 = J_istore 1 2 := rfl
theorem ftl_X7_factorial_2 : F_X7_factorial_0 2 = J_iconst 2 3 := rfl
theorem ftl_X7_factorial_3 : F_X7_factorial_0 3 = J_istore 2 4 := rfl
theorem ftl_X7_factorial_4 : F_X7_factorial_0 4 = J_iload 2 5 := rfl
theorem ftl_X7_factorial_5 : F_X7_factorial_0 5 = J_iload 0 6 := rfl
theorem ftl_X7_factorial_6 : F_X7_factorial_0 6 = J_icgt 19 9 := rfl
theorem ftl_X7_factorial_9 : F_X7_factorial_0 9 = J_iload 1 10 := rfl
theorem ftl_X7_factorial_10 : F_X7_factorial_0 10 = J_iload 2 11 := rfl
theorem ftl_X7_factorial_11 : F_X7_factorial_0 11 = J_imul 12 := rfl
theorem ftl_X7_factorial_12 : F_X7_factorial_0 12 = J_istore 1 13 := rfl
theorem ftl_X7_factorial_13 : F_X7_factorial_0 13 = J_iinc 2 1 16 := rfl
theorem ftl_X7_factorial_16 : F_X7_factorial_0 16 = J_goto 4 := rfl
theorem ftl_X7_factorial_19 : F_X7_factorial_0 19 = J_iload 1 20 := rfl
theorem ftl_X7_factorial_20 : F_X7_factorial_0 20 = J_ireturn 0 0 := rfl
theorem F_X7_factorial_0_ok : jOK Y_X7_factorial none (F_X7_factorial_0) := (jOK_node (jOK_node (jOK_node (jOK_leaf (sn_iconst dX7_factorial_0 rfl rfl)) (jOK_node (jOK_leaf (sn_istore_n dX7_factorial_1 rfl rfl (by decide))) (jOK_leaf (sn_iconst dX7_factorial_2 rfl rfl)))) (jOK_node (jOK_node (jOK_leaf (sn_istore_n dX7_factorial_3 rfl rfl (by decide))) (jOK_leaf (sn_iload_n dX7_factorial_4 rfl rfl))) (jOK_node (jOK_leaf (sn_iload_n dX7_factorial_5 rfl rfl)) (jOK_leaf (sn_icgt dX7_factorial_6 rfl rfl))))) (jOK_node (jOK_node (jOK_node (jOK_leaf (sn_iload_n dX7_factorial_9 rfl rfl)) (jOK_leaf (sn_iload_n dX7_factorial_10 rfl rfl))) (jOK_node (jOK_leaf (sn_imul dX7_factorial_11 rfl)) (jOK_leaf (sn_istore_n dX7_factorial_12 rfl rfl (by decide))))) (jOK_node (jOK_node (jOK_leaf (sn_iinc dX7_factorial_13 rfl rfl (by decide))) (jOK_leaf (sn_goto dX7_factorial_16 rfl))) (jOK_node (jOK_leaf (sn_iload_n dX7_factorial_19 rfl rfl)) (jOK_leaf (sn_ireturn dX7_factorial_20 rfl rfl))))))
def F_X7_factorial : Nat → jT := F_X7_factorial_0
theorem OK_X7_factorial : jOK Y_X7_factorial none (F_X7_factorial) := F_X7_factorial_0_ok
theorem ft_X7_factorial_0 : F_X7_factorial 0 = J_iconst 1 1 := ftl_X7_factorial_0
theorem ft_X7_factorial_1 : F_X7_factorial 1 = J_istore 1 2 := ftl_X7_factorial_1
theorem ft_X7_factorial_2 : F_X7_factorial 2 = J_iconst 2 3 := ftl_X7_factorial_2
theorem ft_X7_factorial_3 : F_X7_factorial 3 = J_istore 2 4 := ftl_X7_factorial_3
theorem ft_X7_factorial_4 : F_X7_factorial 4 = J_iload 2 5 := ftl_X7_factorial_4
theorem ft_X7_factorial_5 : F_X7_factorial 5 = J_iload 0 6 := ftl_X7_factorial_5
theorem ft_X7_factorial_6 : F_X7_factorial 6 = J_icgt 19 9 := ftl_X7_factorial_6
theorem ft_X7_factorial_9 : F_X7_factorial 9 = J_iload 1 10 := ftl_X7_factorial_9
theorem ft_X7_factorial_10 : F_X7_factorial 10 = J_iload 2 11 := ftl_X7_factorial_10
theorem ft_X7_factorial_11 : F_X7_factorial 11 = J_imul 12 := ftl_X7_factorial_11
theorem ft_X7_factorial_12 : F_X7_factorial 12 = J_istore 1 13 := ftl_X7_factorial_12
theorem ft_X7_factorial_13 : F_X7_factorial 13 = J_iinc 2 1 16 := ftl_X7_factorial_13
theorem ft_X7_factorial_16 : F_X7_factorial 16 = J_goto 4 := ftl_X7_factorial_16
theorem ft_X7_factorial_19 : F_X7_factorial 19 = J_iload 1 20 := ftl_X7_factorial_19
theorem ft_X7_factorial_20 : F_X7_factorial 20 = J_ireturn 0 0 := ftl_X7_factorial_20
theorem ok_X7_factorial : jMeets Y_X7_factorial S_X7_factorial := by
  intro nb vs mem Q h
  match vs, h with
  | [.int n], h =>
    refine Ok.run OK_X7_factorial [] 80 [none, none] pn7 (Nat.le_of_ble_eq_true rfl) rfl ?_
    rcases i32_5c h.1 with rfl | rfl | rfl | rfl | rfl
    · simp -implicitDefEqProofs only [jr_0, jr_1, jr_2, j_iconst, j_lconst, j_iload0, j_aload0, j_istore0, j_astore0, j_iinc0, j_iload1, j_aload1, j_istore1, j_astore1, j_iinc1, j_iload2, j_aload2, j_istore2, j_astore2, j_iinc2, j_iload3, j_aload3, j_istore3, j_astore3, j_iinc3, j_iload4, j_aload4, j_istore4, j_astore4, j_iinc4, j_iload5, j_aload5, j_istore5, j_astore5, j_iinc5, j_iload6, j_aload6, j_istore6, j_astore6, j_iinc6, j_iload7, j_aload7, j_istore7, j_astore7, j_iinc7, j_iload8, j_aload8, j_istore8, j_astore8, j_iinc8, j_iadd, j_isub, j_imul, j_iand, j_ior, j_ixor, j_ishl, j_ishr, j_iushr, j_idiv, j_irem, j_ineg, j_ladd, j_lmul, j_land, j_lor, j_lcmp, j_lushr, j_lshl, j_i2l, j_l2i, j_dupI, j_dupR, j_popI, j_dup2, j_ifeq, j_iceq, j_ifne, j_icne, j_iflt, j_iclt, j_ifge, j_icge, j_ifgt, j_icgt, j_ifle, j_icle, j_goto, j_tsw, j_sw0, j_sw1, j_ireturn, j_zreturn, j_lreturn, j_return, j_getfield, j_putI, j_putJ, j_putR, j_iaload, j_baload, j_iastore, j_bastore, j_aaload, j_q, j_aastore, j_acopy, j_mmin, j_mmax, j_mabs, j_objinit, j_new, j_newI, j_newQ, j_sld, j_slen, j_callV0, j_callI0, j_callS0, j_callV1, j_callI1, j_callS1, j_callV2, j_callI2, j_callS2, j_callV3, j_callS3, j_callV4, j_callS4, j_callV5, j_callS5, j_pushS, j_pushN, j_sh0, j_sh1, j_sh2, j_sh3, j_sh4, Int32.reduceAdd, Int32.reduceMul, Int32.reduceSub, Int32.reduceLT, Int32.reduceLE, eq_self, i32_10, i32_01, ne_eq, hrow_s, hrow_n, ne10, ne100, ne1000, ne7, ne4, ne14, ne9973, or_true, true_or, or_false, false_or, not_true_eq_false, not_false_eq_true, false_implies, implies_true, and_true, forall_const, true_implies, jargs_n, jargs_r, jargs_i, List.cons_append, List.nil_append, true_and, Nat.reduceEqDiff, reduceIte, ft_X7_factorial_0, ft_X7_factorial_1, ft_X7_factorial_2, ft_X7_factorial_3, ft_X7_factorial_4, ft_X7_factorial_5, ft_X7_factorial_6, ft_X7_factorial_9, ft_X7_factorial_10, ft_X7_factorial_11, ft_X7_factorial_12, ft_X7_factorial_13, ft_X7_factorial_16, ft_X7_factorial_19, ft_X7_factorial_20]; exact h.2
    · simp -implicitDefEqProofs only [jr_0, jr_1, jr_2, j_iconst, j_lconst, j_iload0, j_aload0, j_istore0, j_astore0, j_iinc0, j_iload1, j_aload1, j_istore1, j_astore1, j_iinc1, j_iload2, j_aload2, j_istore2, j_astore2, j_iinc2, j_iload3, j_aload3, j_istore3, j_astore3, j_iinc3, j_iload4, j_aload4, j_istore4, j_astore4, j_iinc4, j_iload5, j_aload5, j_istore5, j_astore5, j_iinc5, j_iload6, j_aload6, j_istore6, j_astore6, j_iinc6, j_iload7, j_aload7, j_istore7, j_astore7, j_iinc7, j_iload8, j_aload8, j_istore8, j_astore8, j_iinc8, j_iadd, j_isub, j_imul, j_iand, j_ior, j_ixor, j_ishl, j_ishr, j_iushr, j_idiv, j_irem, j_ineg, j_ladd, j_lmul, j_land, j_lor, j_lcmp, j_lushr, j_lshl, j_i2l, j_l2i, j_dupI, j_dupR, j_popI, j_dup2, j_ifeq, j_iceq, j_ifne, j_icne, j_iflt, j_iclt, j_ifge, j_icge, j_ifgt, j_icgt, j_ifle, j_icle, j_goto, j_tsw, j_sw0, j_sw1, j_ireturn, j_zreturn, j_lreturn, j_return, j_getfield, j_putI, j_putJ, j_putR, j_iaload, j_baload, j_iastore, j_bastore, j_aaload, j_q, j_aastore, j_acopy, j_mmin, j_mmax, j_mabs, j_objinit, j_new, j_newI, j_newQ, j_sld, j_slen, j_callV0, j_callI0, j_callS0, j_callV1, j_callI1, j_callS1, j_callV2, j_callI2, j_callS2, j_callV3, j_callS3, j_callV4, j_callS4, j_callV5, j_callS5, j_pushS, j_pushN, j_sh0, j_sh1, j_sh2, j_sh3, j_sh4, Int32.reduceAdd, Int32.reduceMul, Int32.reduceSub, Int32.reduceLT, Int32.reduceLE, eq_self, i32_10, i32_01, ne_eq, hrow_s, hrow_n, ne10, ne100, ne1000, ne7, ne4, ne14, ne9973, or_true, true_or, or_false, false_or, not_true_eq_false, not_false_eq_true, false_implies, implies_true, and_true, forall_const, true_implies, jargs_n, jargs_r, jargs_i, List.cons_append, List.nil_append, true_and, Nat.reduceEqDiff, reduceIte, ft_X7_factorial_0, ft_X7_factorial_1, ft_X7_factorial_2, ft_X7_factorial_3, ft_X7_factorial_4, ft_X7_factorial_5, ft_X7_factorial_6, ft_X7_factorial_9, ft_X7_factorial_10, ft_X7_factorial_11, ft_X7_factorial_12, ft_X7_factorial_13, ft_X7_factorial_16, ft_X7_factorial_19, ft_X7_factorial_20]; exact h.2
    · simp -implicitDefEqProofs only [jr_0, jr_1, jr_2, j_iconst, j_lconst, j_iload0, j_aload0, j_istore0, j_astore0, j_iinc0, j_iload1, j_aload1, j_istore1, j_astore1, j_iinc1, j_iload2, j_aload2, j_istore2, j_astore2, j_iinc2, j_iload3, j_aload3, j_istore3, j_astore3, j_iinc3, j_iload4, j_aload4, j_istore4, j_astore4, j_iinc4, j_iload5, j_aload5, j_istore5, j_astore5, j_iinc5, j_iload6, j_aload6, j_istore6, j_astore6, j_iinc6, j_iload7, j_aload7, j_istore7, j_astore7, j_iinc7, j_iload8, j_aload8, j_istore8, j_astore8, j_iinc8, j_iadd, j_isub, j_imul, j_iand, j_ior, j_ixor, j_ishl, j_ishr, j_iushr, j_idiv, j_irem, j_ineg, j_ladd, j_lmul, j_land, j_lor, j_lcmp, j_lushr, j_lshl, j_i2l, j_l2i, j_dupI, j_dupR, j_popI, j_dup2, j_ifeq, j_iceq, j_ifne, j_icne, j_iflt, j_iclt, j_ifge, j_icge, j_ifgt, j_icgt, j_ifle, j_icle, j_goto, j_tsw, j_sw0, j_sw1, j_ireturn, j_zreturn, j_lreturn, j_return, j_getfield, j_putI, j_putJ, j_putR, j_iaload, j_baload, j_iastore, j_bastore, j_aaload, j_q, j_aastore, j_acopy, j_mmin, j_mmax, j_mabs, j_objinit, j_new, j_newI, j_newQ, j_sld, j_slen, j_callV0, j_callI0, j_callS0, j_callV1, j_callI1, j_callS1, j_callV2, j_callI2, j_callS2, j_callV3, j_callS3, j_callV4, j_callS4, j_callV5, j_callS5, j_pushS, j_pushN, j_sh0, j_sh1, j_sh2, j_sh3, j_sh4, Int32.reduceAdd, Int32.reduceMul, Int32.reduceSub, Int32.reduceLT, Int32.reduceLE, eq_self, i32_10, i32_01, ne_eq, hrow_s, hrow_n, ne10, ne100, ne1000, ne7, ne4, ne14, ne9973, or_true, true_or, or_false, false_or, not_true_eq_false, not_false_eq_true, false_implies, implies_true, and_true, forall_const, true_implies, jargs_n, jargs_r, jargs_i, List.cons_append, List.nil_append, true_and, Nat.reduceEqDiff, reduceIte, ft_X7_factorial_0, ft_X7_factorial_1, ft_X7_factorial_2, ft_X7_factorial_3, ft_X7_factorial_4, ft_X7_factorial_5, ft_X7_factorial_6, ft_X7_factorial_9, ft_X7_factorial_10, ft_X7_factorial_11, ft_X7_factorial_12, ft_X7_factorial_13, ft_X7_factorial_16, ft_X7_factorial_19, ft_X7_factorial_20]; exact h.2
    · simp -implicitDefEqProofs only [jr_0, jr_1, jr_2, j_iconst, j_lconst, j_iload0, j_aload0, j_istore0, j_astore0, j_iinc0, j_iload1, j_aload1, j_istore1, j_astore1, j_iinc1, j_iload2, j_aload2, j_istore2, j_astore2, j_iinc2, j_iload3, j_aload3, j_istore3, j_astore3, j_iinc3, j_iload4, j_aload4, j_istore4, j_astore4, j_iinc4, j_iload5, j_aload5, j_istore5, j_astore5, j_iinc5, j_iload6, j_aload6, j_istore6, j_astore6, j_iinc6, j_iload7, j_aload7, j_istore7, j_astore7, j_iinc7, j_iload8, j_aload8, j_istore8, j_astore8, j_iinc8, j_iadd, j_isub, j_imul, j_iand, j_ior, j_ixor, j_ishl, j_ishr, j_iushr, j_idiv, j_irem, j_ineg, j_ladd, j_lmul, j_land, j_lor, j_lcmp, j_lushr, j_lshl, j_i2l, j_l2i, j_dupI, j_dupR, j_popI, j_dup2, j_ifeq, j_iceq, j_ifne, j_icne, j_iflt, j_iclt, j_ifge, j_icge, j_ifgt, j_icgt, j_ifle, j_icle, j_goto, j_tsw, j_sw0, j_sw1, j_ireturn, j_zreturn, j_lreturn, j_return, j_getfield, j_putI, j_putJ, j_putR, j_iaload, j_baload, j_iastore, j_bastore, j_aaload, j_q, j_aastore, j_acopy, j_mmin, j_mmax, j_mabs, j_objinit, j_new, j_newI, j_newQ, j_sld, j_slen, j_callV0, j_callI0, j_callS0, j_callV1, j_callI1, j_callS1, j_callV2, j_callI2, j_callS2, j_callV3, j_callS3, j_callV4, j_callS4, j_callV5, j_callS5, j_pushS, j_pushN, j_sh0, j_sh1, j_sh2, j_sh3, j_sh4, Int32.reduceAdd, Int32.reduceMul, Int32.reduceSub, Int32.reduceLT, Int32.reduceLE, eq_self, i32_10, i32_01, ne_eq, hrow_s, hrow_n, ne10, ne100, ne1000, ne7, ne4, ne14, ne9973, or_true, true_or, or_false, false_or, not_true_eq_false, not_false_eq_true, false_implies, implies_true, and_true, forall_const, true_implies, jargs_n, jargs_r, jargs_i, List.cons_append, List.nil_append, true_and, Nat.reduceEqDiff, reduceIte, ft_X7_factorial_0, ft_X7_factorial_1, ft_X7_factorial_2, ft_X7_factorial_3, ft_X7_factorial_4, ft_X7_factorial_5, ft_X7_factorial_6, ft_X7_factorial_9, ft_X7_factorial_10, ft_X7_factorial_11, ft_X7_factorial_12, ft_X7_factorial_13, ft_X7_factorial_16, ft_X7_factorial_19, ft_X7_factorial_20]; exact h.2
    · simp -implicitDefEqProofs only [jr_0, jr_1, jr_2, j_iconst, j_lconst, j_iload0, j_aload0, j_istore0, j_astore0, j_iinc0, j_iload1, j_aload1, j_istore1, j_astore1, j_iinc1, j_iload2, j_aload2, j_istore2, j_astore2, j_iinc2, j_iload3, j_aload3, j_istore3, j_astore3, j_iinc3, j_iload4, j_aload4, j_istore4, j_astore4, j_iinc4, j_iload5, j_aload5, j_istore5, j_astore5, j_iinc5, j_iload6, j_aload6, j_istore6, j_astore6, j_iinc6, j_iload7, j_aload7, j_istore7, j_astore7, j_iinc7, j_iload8, j_aload8, j_istore8, j_astore8, j_iinc8, j_iadd, j_isub, j_imul, j_iand, j_ior, j_ixor, j_ishl, j_ishr, j_iushr, j_idiv, j_irem, j_ineg, j_ladd, j_lmul, j_land, j_lor, j_lcmp, j_lushr, j_lshl, j_i2l, j_l2i, j_dupI, j_dupR, j_popI, j_dup2, j_ifeq, j_iceq, j_ifne, j_icne, j_iflt, j_iclt, j_ifge, j_icge, j_ifgt, j_icgt, j_ifle, j_icle, j_goto, j_tsw, j_sw0, j_sw1, j_ireturn, j_zreturn, j_lreturn, j_return, j_getfield, j_putI, j_putJ, j_putR, j_iaload, j_baload, j_iastore, j_bastore, j_aaload, j_q, j_aastore, j_acopy, j_mmin, j_mmax, j_mabs, j_objinit, j_new, j_newI, j_newQ, j_sld, j_slen, j_callV0, j_callI0, j_callS0, j_callV1, j_callI1, j_callS1, j_callV2, j_callI2, j_callS2, j_callV3, j_callS3, j_callV4, j_callS4, j_callV5, j_callS5, j_pushS, j_pushN, j_sh0, j_sh1, j_sh2, j_sh3, j_sh4, Int32.reduceAdd, Int32.reduceMul, Int32.reduceSub, Int32.reduceLT, Int32.reduceLE, eq_self, i32_10, i32_01, ne_eq, hrow_s, hrow_n, ne10, ne100, ne1000, ne7, ne4, ne14, ne9973, or_true, true_or, or_false, false_or, not_true_eq_false, not_false_eq_true, false_implies, implies_true, and_true, forall_const, true_implies, jargs_n, jargs_r, jargs_i, List.cons_append, List.nil_append, true_and, Nat.reduceEqDiff, reduceIte, ft_X7_factorial_0, ft_X7_factorial_1, ft_X7_factorial_2, ft_X7_factorial_3, ft_X7_factorial_4, ft_X7_factorial_5, ft_X7_factorial_6, ft_X7_factorial_9, ft_X7_factorial_10, ft_X7_factorial_11, ft_X7_factorial_12, ft_X7_factorial_13, ft_X7_factorial_16, ft_X7_factorial_19, ft_X7_factorial_20]; exact h.2
/-- Euclid's way ends within k rounds -/
def euP : Nat → Int32 → Int32 → Prop
  | 0, _, b => b = 0
  | k + 1, a, b => b = 0 ∨ euP k b (a - a / b * b)
theorem gdF_0 {k : Nat} {a : Int32} : gdF k a 0 = a := by
  cases k with
  | zero => rfl
  | succ k => exact if_pos rfl
noncomputable def fracF (above below u : Int32) : Int32 := pick (u = 0) below above / gdF 50 (absF above) below
def S_X7_fraction : jSp := fun _ vs mem Q => ∃ a b u : Int32, vs = [.int a, .int b, .int u] ∧ euP 50 (absF a) b ∧ ¬ gdF 50 (absF a) b = 0 ∧ Q (some (.int (fracF a b u))) mem
def F_X7_fraction_0 : Nat → jT := fun pc => (bif Nat.blt pc 11 then (bif Nat.blt pc 5 then (bif Nat.blt pc 1 then (bif Nat.beq pc 0 then J_iload 0 1 else jbad) else (bif Nat.blt pc 4 then (bif Nat.beq pc 1 then J_ifge 9 4 else jbad) else (bif Nat.beq pc 4 then J_iload 0 5 else jbad))) else (bif Nat.blt pc 9 then (bif Nat.blt pc 6 then (bif Nat.beq pc 5 then J_ineg 6 else jbad) else (bif Nat.beq pc 6 then J_goto 10 else jbad)) else (bif Nat.blt pc 10 then (bif Nat.beq pc 9 then J_iload 0 10 else jbad) else (bif Nat.beq pc 10 then J_istore 3 11 else jbad)))) else (bif Nat.blt pc 19 then (bif Nat.blt pc 14 then (bif Nat.blt pc 12 then (bif Nat.beq pc 11 then J_iload 1 12 else jbad) else (bif Nat.beq pc 12 then J_istore 4 14 else jbad)) else (bif Nat.blt pc 16 then (bif Nat.beq pc 14 then J_iload 4 16 else jbad) else (bif Nat.beq pc 16 then J_ifeq 35 19 else jbad))) else (bif Nat.blt pc 22 then (bif Nat.blt pc 20 then (bif Nat.beq pc 19 then J_iload 3 20 else jbad) else (bif Nat.beq pc 20 then J_iload 4 22 else jbad)) else (bif Nat.blt pc 23 then (bif Nat.beq pc 22 then J_irem 23 else jbad) else (bif Nat.beq pc 23 then J_istore 5 25 else jbad)))))
theorem ftl_X7_fraction_0 : F_X7_fraction_0 0 = J_iload 0 1 := rfl
theorem ftl_X7_fraction_1 : F_X7_fraction_0 1 = J_ifge 9 4 := rfl
theorem ftl_X7_fraction_4 : F_X7_fraction_0 4 = J_iload 0 5 := rfl
theorem ftl_X7_fraction_5 : F_X7_fraction_0 5 = J_ineg 6 := rfl
theorem ftl_X7_fraction_6 : F_X7_fraction_0 6 = J_goto 10 := rfl
theorem ftl_X7_fraction_9 : F_X7_fraction_0 9 = J_iload 0 10 := rfl
theorem ftl_X7_fraction_10 : F_X7_fraction_0 10 = J_istore 3 11 := rfl
theorem ftl_X7_fraction_11 : F_X7_fraction_0 11 = J_iload 1 12 := rfl
theorem ftl_X7_fraction_12 : F_X7_fraction_0 12 = J_istore 4 14 := rfl
theorem ftl_X7_fraction_14 : F_X7_fraction_0 14 = J_iload 4 16 := rfl
theorem ftl_X7_fraction_16 : F_X7_fraction_0 16 = J_ifeq 35 19 := rfl
theorem ftl_X7_fraction_19 : F_X7_fraction_0 19 = J_iload 3 20 := rfl
theorem ftl_X7_fraction_20 : F_X7_fraction_0 20 = J_iload 4 22 := rfl
theorem ftl_X7_fraction_22 : F_X7_fraction_0 22 = J_irem 23 := rfl
theorem ftl_X7_fraction_23 : F_X7_fraction_0 23 = J_istore 5 25 := rfl
theorem F_X7_fraction_0_ok : jOK Y_X7_fraction none (F_X7_fraction_0) := (jOK_node (jOK_node (jOK_node (jOK_leaf (sn_iload_n dX7_fraction_0 rfl rfl)) (jOK_node (jOK_leaf (sn_ifge dX7_fraction_1 rfl rfl)) (jOK_leaf (sn_iload_n dX7_fraction_4 rfl rfl)))) (jOK_node (jOK_node (jOK_leaf (sn_ineg dX7_fraction_5 rfl)) (jOK_leaf (sn_goto dX7_fraction_6 rfl))) (jOK_node (jOK_leaf (sn_iload_n dX7_fraction_9 rfl rfl)) (jOK_leaf (sn_istore_n dX7_fraction_10 rfl rfl (by decide)))))) (jOK_node (jOK_node (jOK_node (jOK_leaf (sn_iload_n dX7_fraction_11 rfl rfl)) (jOK_leaf (sn_istore dX7_fraction_12 rfl (by decide)))) (jOK_node (jOK_leaf (sn_iload dX7_fraction_14 rfl)) (jOK_leaf (sn_ifeq dX7_fraction_16 rfl rfl)))) (jOK_node (jOK_node (jOK_leaf (sn_iload_n dX7_fraction_19 rfl rfl)) (jOK_leaf (sn_iload dX7_fraction_20 rfl))) (jOK_node (jOK_leaf (sn_irem dX7_fraction_22 rfl)) (jOK_leaf (sn_istore dX7_fraction_23 rfl (by decide)))))))
def F_X7_fraction_25 : Nat → jT := fun pc => (bif Nat.blt pc 39 then (bif Nat.blt pc 30 then (bif Nat.blt pc 27 then (bif Nat.beq pc 25 then J_iload 4 27 else jbad) else (bif Nat.blt pc 28 then (bif Nat.beq pc 27 then J_istore 3 28 else jbad) else (bif Nat.beq pc 28 then J_iload 5 30 else jbad))) else (bif Nat.blt pc 35 then (bif Nat.blt pc 32 then (bif Nat.beq pc 30 then J_istore 4 32 else jbad) else (bif Nat.beq pc 32 then J_goto 14 else jbad)) else (bif Nat.blt pc 36 then (bif Nat.beq pc 35 then J_iload 2 36 else jbad) else (bif Nat.beq pc 36 then J_ifeq 45 39 else jbad)))) else (bif Nat.blt pc 45 then (bif Nat.blt pc 41 then (bif Nat.blt pc 40 then (bif Nat.beq pc 39 then J_iload 0 40 else jbad) else (bif Nat.beq pc 40 then J_iload 3 41 else jbad)) else (bif Nat.blt pc 42 then (bif Nat.beq pc 41 then J_idiv 42 else jbad) else (bif Nat.beq pc 42 then J_goto 48 else jbad))) else (bif Nat.blt pc 47 then (bif Nat.blt pc 46 then (bif Nat.beq pc 45 then J_iload 1 46 else jbad) else (bif Nat.beq pc 46 then J_iload 3 47 else jbad)) else (bif Nat.blt pc 48 then (bif Nat.beq pc 47 then J_idiv 48 else jbad) else (bif Nat.beq pc 48 then J_ireturn 0 0 else jbad)))))
theorem ftl_X7_fraction_25 : F_X7_fraction_25 25 = J_iload 4 27 := rfl
theorem ftl_X7_fraction_27 : F_X7_fraction_25 27 = J_istore 3 28 := rfl
theorem ftl_X7_fraction_28 : F_X7_fraction_25 28 = J_iload 5 30 := rfl
theorem ftl_X7_fraction_30 : F_X7_fraction_25 30 = J_istore 4 32 := rfl
theorem ftl_X7_fraction_32 : F_X7_fraction_25 32 = J_goto 14 := rfl
theorem ftl_X7_fraction_35 : F_X7_fraction_25 35 = J_iload 2 36 := rfl
theorem ftl_X7_fraction_36 : F_X7_fraction_25 36 = J_ifeq 45 39 := rfl
theorem ftl_X7_fraction_39 : F_X7_fraction_25 39 = J_iload 0 40 := rfl
theorem ftl_X7_fraction_40 : F_X7_fraction_25 40 = J_iload 3 41 := rfl
theorem ftl_X7_fraction_41 : F_X7_fraction_25 41 = J_idiv 42 := rfl
theorem ftl_X7_fraction_42 : F_X7_fraction_25 42 = J_goto 48 := rfl
theorem ftl_X7_fraction_45 : F_X7_fraction_25 45 = J_iload 1 46 := rfl
theorem ftl_X7_fraction_46 : F_X7_fraction_25 46 = J_iload 3 47 := rfl
theorem ftl_X7_fraction_47 : F_X7_fraction_25 47 = J_idiv 48 := rfl
theorem ftl_X7_fraction_48 : F_X7_fraction_25 48 = J_ireturn 0 0 := rfl
theorem F_X7_fraction_25_ok : jOK Y_X7_fraction none (F_X7_fraction_25) := (jOK_node (jOK_node (jOK_node (jOK_leaf (sn_iload dX7_fraction_25 rfl)) (jOK_node (jOK_leaf (sn_istore_n dX7_fraction_27 rfl rfl (by decide))) (jOK_leaf (sn_iload dX7_fraction_28 rfl)))) (jOK_node (jOK_node (jOK_leaf (sn_istore dX7_fraction_30 rfl (by decide))) (jOK_leaf (sn_goto dX7_fraction_32 rfl))) (jOK_node (jOK_leaf (sn_iload_n dX7_fraction_35 rfl rfl)) (jOK_leaf (sn_ifeq dX7_fraction_36 rfl rfl))))) (jOK_node (jOK_node (jOK_node (jOK_leaf (sn_iload_n dX7_fraction_39 rfl rfl)) (jOK_leaf (sn_iload_n dX7_fraction_40 rfl rfl))) (jOK_node (jOK_leaf (sn_idiv dX7_fraction_41 rfl)) (jOK_leaf (sn_goto dX7_fraction_42 rfl)))) (jOK_node (jOK_node (jOK_leaf (sn_iload_n dX7_fraction_45 rfl rfl)) (jOK_leaf (sn_iload_n dX7_fraction_46 rfl rfl))) (jOK_node (jOK_leaf (sn_idiv dX7_fraction_47 rfl)) (jOK_leaf (sn_ireturn dX7_fraction_48 rfl rfl))))))
def F_X7_fraction_0_48 : Nat → jT := fun pc => bif Nat.blt pc 25 then F_X7_fraction_0 pc else F_X7_fraction_25 pc
theorem F_X7_fraction_0_48_l {pc : Nat} (h : Nat.blt pc 25 = true) : F_X7_fraction_0_48 pc = F_X7_fraction_0 pc := by unfold F_X7_fraction_0_48; rw [h]; rfl
theorem F_X7_fraction_0_48_r {pc : Nat} (h : Nat.blt pc 25 = false) : F_X7_fraction_0_48 pc = F_X7_fraction_25 pc := by unfold F_X7_fraction_0_48; rw [h]; rfl
theorem F_X7_fraction_0_48_ok : jOK Y_X7_fraction none (F_X7_fraction_0_48) := jOK_node (F_X7_fraction_0_ok) (F_X7_fraction_25_ok)
def F_X7_fraction : Nat → jT := F_X7_fraction_0_48
theorem OK_X7_fraction : jOK Y_X7_fraction none (F_X7_fraction) := F_X7_fraction_0_48_ok
theorem ft_X7_fraction_0 : F_X7_fraction 0 = J_iload 0 1 := (F_X7_fraction_0_48_l rfl).trans (ftl_X7_fraction_0)
theorem ft_X7_fraction_1 : F_X7_fraction 1 = J_ifge 9 4 := (F_X7_fraction_0_48_l rfl).trans (ftl_X7_fraction_1)
theorem ft_X7_fraction_4 : F_X7_fraction 4 = J_iload 0 5 := (F_X7_fraction_0_48_l rfl).trans (ftl_X7_fraction_4)
theorem ft_X7_fraction_5 : F_X7_fraction 5 = J_ineg 6 := (F_X7_fraction_0_48_l rfl).trans (ftl_X7_fraction_5)
theorem ft_X7_fraction_6 : F_X7_fraction 6 = J_goto 10 := (F_X7_fraction_0_48_l rfl).trans (ftl_X7_fraction_6)
theorem ft_X7_fraction_9 : F_X7_fraction 9 = J_iload 0 10 := (F_X7_fraction_0_48_l rfl).trans (ftl_X7_fraction_9)
theorem ft_X7_fraction_10 : F_X7_fraction 10 = J_istore 3 11 := (F_X7_fraction_0_48_l rfl).trans (ftl_X7_fraction_10)
theorem ft_X7_fraction_11 : F_X7_fraction 11 = J_iload 1 12 := (F_X7_fraction_0_48_l rfl).trans (ftl_X7_fraction_11)
theorem ft_X7_fraction_12 : F_X7_fraction 12 = J_istore 4 14 := (F_X7_fraction_0_48_l rfl).trans (ftl_X7_fraction_12)
theorem ft_X7_fraction_14 : F_X7_fraction 14 = J_iload 4 16 := (F_X7_fraction_0_48_l rfl).trans (ftl_X7_fraction_14)
theorem ft_X7_fraction_16 : F_X7_fraction 16 = J_ifeq 35 19 := (F_X7_fraction_0_48_l rfl).trans (ftl_X7_fraction_16)
theorem ft_X7_fraction_19 : F_X7_fraction 19 = J_iload 3 20 := (F_X7_fraction_0_48_l rfl).trans (ftl_X7_fraction_19)
theorem ft_X7_fraction_20 : F_X7_fraction 20 = J_iload 4 22 := (F_X7_fraction_0_48_l rfl).trans (ftl_X7_fraction_20)
theorem ft_X7_fraction_22 : F_X7_fraction 22 = J_irem 23 := (F_X7_fraction_0_48_l rfl).trans (ftl_X7_fraction_22)
theorem ft_X7_fraction_23 : F_X7_fraction 23 = J_istore 5 25 := (F_X7_fraction_0_48_l rfl).trans (ftl_X7_fraction_23)
theorem ft_X7_fraction_25 : F_X7_fraction 25 = J_iload 4 27 := (F_X7_fraction_0_48_r rfl).trans (ftl_X7_fraction_25)
theorem ft_X7_fraction_27 : F_X7_fraction 27 = J_istore 3 28 := (F_X7_fraction_0_48_r rfl).trans (ftl_X7_fraction_27)
theorem ft_X7_fraction_28 : F_X7_fraction 28 = J_iload 5 30 := (F_X7_fraction_0_48_r rfl).trans (ftl_X7_fraction_28)
theorem ft_X7_fraction_30 : F_X7_fraction 30 = J_istore 4 32 := (F_X7_fraction_0_48_r rfl).trans (ftl_X7_fraction_30)
theorem ft_X7_fraction_32 : F_X7_fraction 32 = J_goto 14 := (F_X7_fraction_0_48_r rfl).trans (ftl_X7_fraction_32)
theorem ft_X7_fraction_35 : F_X7_fraction 35 = J_iload 2 36 := (F_X7_fraction_0_48_r rfl).trans (ftl_X7_fraction_35)
theorem ft_X7_fraction_36 : F_X7_fraction 36 = J_ifeq 45 39 := (F_X7_fraction_0_48_r rfl).trans (ftl_X7_fraction_36)
theorem ft_X7_fraction_39 : F_X7_fraction 39 = J_iload 0 40 := (F_X7_fraction_0_48_r rfl).trans (ftl_X7_fraction_39)
theorem ft_X7_fraction_40 : F_X7_fraction 40 = J_iload 3 41 := (F_X7_fraction_0_48_r rfl).trans (ftl_X7_fraction_40)
theorem ft_X7_fraction_41 : F_X7_fraction 41 = J_idiv 42 := (F_X7_fraction_0_48_r rfl).trans (ftl_X7_fraction_41)
theorem ft_X7_fraction_42 : F_X7_fraction 42 = J_goto 48 := (F_X7_fraction_0_48_r rfl).trans (ftl_X7_fraction_42)
theorem ft_X7_fraction_45 : F_X7_fraction 45 = J_iload 1 46 := (F_X7_fraction_0_48_r rfl).trans (ftl_X7_fraction_45)
theorem ft_X7_fraction_46 : F_X7_fraction 46 = J_iload 3 47 := (F_X7_fraction_0_48_r rfl).trans (ftl_X7_fraction_46)
theorem ft_X7_fraction_47 : F_X7_fraction 47 = J_idiv 48 := (F_X7_fraction_0_48_r rfl).trans (ftl_X7_fraction_47)
theorem ft_X7_fraction_48 : F_X7_fraction 48 = J_ireturn 0 0 := (F_X7_fraction_0_48_r rfl).trans (ftl_X7_fraction_48)
theorem lp_X7_fraction {Q : jQ} {mem : jM} {nb : Nat} {a b u : Int32} (hg : ¬ gdF 50 (absF a) b = 0) (h : Q (some (.int (fracF a b u))) mem) : ∀ k, ∀ (x y : Int32) (o : Option Value), euP k x y → gdF k x y = gdF 50 (absF a) b → Rn Y_X7_fraction none Q 14 [some (.int a), some (.int b), some (.int u), some (.int x), some (.int y), o] [] mem (nb, 0, 0) := by
  intro k
  have stop : ∀ (x : Int32) (o : Option Value), x = gdF 50 (absF a) b → Rn Y_X7_fraction none Q 14 [some (.int a), some (.int b), some (.int u), some (.int x), some (.int 0), o] [] mem (nb, 0, 0) := by
    intro x o hx
    rw [← hx] at hg
    refine jrun_first OK_X7_fraction (C := [14]) 40 ?_
    simp -implicitDefEqProofs only [jr_0, jr_1, jr_2, j_iconst, j_lconst, j_iload0, j_aload0, j_istore0, j_astore0, j_iinc0, j_iload1, j_aload1, j_istore1, j_astore1, j_iinc1, j_iload2, j_aload2, j_istore2, j_astore2, j_iinc2, j_iload3, j_aload3, j_istore3, j_astore3, j_iinc3, j_iload4, j_aload4, j_istore4, j_astore4, j_iinc4, j_iload5, j_aload5, j_istore5, j_astore5, j_iinc5, j_iload6, j_aload6, j_istore6, j_astore6, j_iinc6, j_iload7, j_aload7, j_istore7, j_astore7, j_iinc7, j_iload8, j_aload8, j_istore8, j_astore8, j_iinc8, j_iadd, j_isub, j_imul, j_iand, j_ior, j_ixor, j_ishl, j_ishr, j_iushr, j_idiv, j_irem, j_ineg, j_ladd, j_lmul, j_land, j_lor, j_lcmp, j_lushr, j_lshl, j_i2l, j_l2i, j_dupI, j_dupR, j_popI, j_dup2, j_ifeq, j_iceq, j_ifne, j_icne, j_iflt, j_iclt, j_ifge, j_icge, j_ifgt, j_icgt, j_ifle, j_icle, j_goto, j_tsw, j_sw0, j_sw1, j_ireturn, j_zreturn, j_lreturn, j_return, j_getfield, j_putI, j_putJ, j_putR, j_iaload, j_baload, j_iastore, j_bastore, j_aaload, j_q, j_aastore, j_acopy, j_mmin, j_mmax, j_mabs, j_objinit, j_new, j_newI, j_newQ, j_sld, j_slen, j_callV0, j_callI0, j_callS0, j_callV1, j_callI1, j_callS1, j_callV2, j_callI2, j_callS2, j_callV3, j_callS3, j_callV4, j_callS4, j_callV5, j_callS5, j_pushS, j_pushN, j_sh0, j_sh1, j_sh2, j_sh3, j_sh4, Int32.reduceAdd, Int32.reduceMul, Int32.reduceSub, Int32.reduceLT, Int32.reduceLE, eq_self, i32_10, i32_01, ne_eq, hrow_s, hrow_n, ne10, ne100, ne1000, ne7, ne4, ne14, ne9973, or_true, true_or, or_false, false_or, not_true_eq_false, not_false_eq_true, false_implies, implies_true, and_true, forall_const, true_implies, jargs_n, jargs_r, jargs_i, List.cons_append, List.nil_append, true_and, Nat.reduceEqDiff, reduceIte, ft_X7_fraction_0, ft_X7_fraction_1, ft_X7_fraction_4, ft_X7_fraction_5, ft_X7_fraction_6, ft_X7_fraction_9, ft_X7_fraction_10, ft_X7_fraction_11, ft_X7_fraction_12, ft_X7_fraction_14, ft_X7_fraction_16, ft_X7_fraction_19, ft_X7_fraction_20, ft_X7_fraction_22, ft_X7_fraction_23, ft_X7_fraction_25, ft_X7_fraction_27, ft_X7_fraction_28, ft_X7_fraction_30, ft_X7_fraction_32, ft_X7_fraction_35, ft_X7_fraction_36, ft_X7_fraction_39, ft_X7_fraction_40, ft_X7_fraction_41, ft_X7_fraction_42, ft_X7_fraction_45, ft_X7_fraction_46, ft_X7_fraction_47, ft_X7_fraction_48]
    unfold fracF at h
    rw [← hx] at h
    by_cases hu : u = 0
    · rw [pick_t hu] at h
      simp only [hu, hg, not_true_eq_false, not_false_eq_true, true_implies, false_implies, implies_true, and_true, true_and, forall_const]
      exact h
    · rw [pick_f hu] at h
      simp only [hu, hg, not_true_eq_false, not_false_eq_true, true_implies, false_implies, implies_true, and_true, true_and, forall_const]
      exact h
  induction k with
  | zero =>
    intro x y o he hd
    have he : y = 0 := he
    subst he
    exact stop x o hd
  | succ k ih =>
    intro x y o he hd
    by_cases hy : y = 0
    · subst hy
      exact stop x o (by rw [gdF_0] at hd; exact hd)
    · have he : euP k y (x - x / y * y) := he.resolve_left hy
      have hd : gdF k y (x - x / y * y) = gdF 50 (absF a) b := by
        rw [← hd]
        show _ = if y = 0 then x else gdF k y (x - x / y * y)
        rw [if_neg hy]
      refine jrun_first OK_X7_fraction (C := [14]) 40 ?_
      simp -implicitDefEqProofs only [jr_0, jr_1, jr_2, j_iconst, j_lconst, j_iload0, j_aload0, j_istore0, j_astore0, j_iinc0, j_iload1, j_aload1, j_istore1, j_astore1, j_iinc1, j_iload2, j_aload2, j_istore2, j_astore2, j_iinc2, j_iload3, j_aload3, j_istore3, j_astore3, j_iinc3, j_iload4, j_aload4, j_istore4, j_astore4, j_iinc4, j_iload5, j_aload5, j_istore5, j_astore5, j_iinc5, j_iload6, j_aload6, j_istore6, j_astore6, j_iinc6, j_iload7, j_aload7, j_istore7, j_astore7, j_iinc7, j_iload8, j_aload8, j_istore8, j_astore8, j_iinc8, j_iadd, j_isub, j_imul, j_iand, j_ior, j_ixor, j_ishl, j_ishr, j_iushr, j_idiv, j_irem, j_ineg, j_ladd, j_lmul, j_land, j_lor, j_lcmp, j_lushr, j_lshl, j_i2l, j_l2i, j_dupI, j_dupR, j_popI, j_dup2, j_ifeq, j_iceq, j_ifne, j_icne, j_iflt, j_iclt, j_ifge, j_icge, j_ifgt, j_icgt, j_ifle, j_icle, j_goto, j_tsw, j_sw0, j_sw1, j_ireturn, j_zreturn, j_lreturn, j_return, j_getfield, j_putI, j_putJ, j_putR, j_iaload, j_baload, j_iastore, j_bastore, j_aaload, j_q, j_aastore, j_acopy, j_mmin, j_mmax, j_mabs, j_objinit, j_new, j_newI, j_newQ, j_sld, j_slen, j_callV0, j_callI0, j_callS0, j_callV1, j_callI1, j_callS1, j_callV2, j_callI2, j_callS2, j_callV3, j_callS3, j_callV4, j_callS4, j_callV5, j_callS5, j_pushS, j_pushN, j_sh0, j_sh1, j_sh2, j_sh3, j_sh4, Int32.reduceAdd, Int32.reduceMul, Int32.reduceSub, Int32.reduceLT, Int32.reduceLE, eq_self, i32_10, i32_01, ne_eq, hrow_s, hrow_n, ne10, ne100, ne1000, ne7, ne4, ne14, ne9973, or_true, true_or, or_false, false_or, not_true_eq_false, not_false_eq_true, false_implies, implies_true, and_true, forall_const, true_implies, jargs_n, jargs_r, jargs_i, List.cons_append, List.nil_append, true_and, Nat.reduceEqDiff, reduceIte, ft_X7_fraction_0, ft_X7_fraction_1, ft_X7_fraction_4, ft_X7_fraction_5, ft_X7_fraction_6, ft_X7_fraction_9, ft_X7_fraction_10, ft_X7_fraction_11, ft_X7_fraction_12, ft_X7_fraction_14, ft_X7_fraction_16, ft_X7_fraction_19, ft_X7_fraction_20, ft_X7_fraction_22, ft_X7_fraction_23, ft_X7_fraction_25, ft_X7_fraction_27, ft_X7_fraction_28, ft_X7_fraction_30, ft_X7_fraction_32, ft_X7_fraction_35, ft_X7_fraction_36, ft_X7_fraction_39, ft_X7_fraction_40, ft_X7_fraction_41, ft_X7_fraction_42, ft_X7_fraction_45, ft_X7_fraction_46, ft_X7_fraction_47, ft_X7_fraction_48]
      simp only [hy, not_true_eq_false, not_false_eq_true, true_implies, false_implies, implies_true, and_true, true_and, forall_const]
      exact ih _ _ _ he hd
theorem ok_X7_fraction : jMeets Y_X7_fraction S_X7_fraction := by
  intro nb vs mem Q h
  obtain ⟨a, b, u, rfl, he, hg, hQ⟩ := h
  refine Ok.run OK_X7_fraction [14] 40 [none, none, none] pn7 (Nat.le_of_ble_eq_true rfl) rfl ?_
  simp -implicitDefEqProofs only [jr_0, jr_1, jr_2, j_iconst, j_lconst, j_iload0, j_aload0, j_istore0, j_astore0, j_iinc0, j_iload1, j_aload1, j_istore1, j_astore1, j_iinc1, j_iload2, j_aload2, j_istore2, j_astore2, j_iinc2, j_iload3, j_aload3, j_istore3, j_astore3, j_iinc3, j_iload4, j_aload4, j_istore4, j_astore4, j_iinc4, j_iload5, j_aload5, j_istore5, j_astore5, j_iinc5, j_iload6, j_aload6, j_istore6, j_astore6, j_iinc6, j_iload7, j_aload7, j_istore7, j_astore7, j_iinc7, j_iload8, j_aload8, j_istore8, j_astore8, j_iinc8, j_iadd, j_isub, j_imul, j_iand, j_ior, j_ixor, j_ishl, j_ishr, j_iushr, j_idiv, j_irem, j_ineg, j_ladd, j_lmul, j_land, j_lor, j_lcmp, j_lushr, j_lshl, j_i2l, j_l2i, j_dupI, j_dupR, j_popI, j_dup2, j_ifeq, j_iceq, j_ifne, j_icne, j_iflt, j_iclt, j_ifge, j_icge, j_ifgt, j_icgt, j_ifle, j_icle, j_goto, j_tsw, j_sw0, j_sw1, j_ireturn, j_zreturn, j_lreturn, j_return, j_getfield, j_putI, j_putJ, j_putR, j_iaload, j_baload, j_iastore, j_bastore, j_aaload, j_q, j_aastore, j_acopy, j_mmin, j_mmax, j_mabs, j_objinit, j_new, j_newI, j_newQ, j_sld, j_slen, j_callV0, j_callI0, j_callS0, j_callV1, j_callI1, j_callS1, j_callV2, j_callI2, j_callS2, j_callV3, j_callS3, j_callV4, j_callS4, j_callV5, j_callS5, j_pushS, j_pushN, j_sh0, j_sh1, j_sh2, j_sh3, j_sh4, Int32.reduceAdd, Int32.reduceMul, Int32.reduceSub, Int32.reduceLT, Int32.reduceLE, eq_self, i32_10, i32_01, ne_eq, hrow_s, hrow_n, ne10, ne100, ne1000, ne7, ne4, ne14, ne9973, or_true, true_or, or_false, false_or, not_true_eq_false, not_false_eq_true, false_implies, implies_true, and_true, forall_const, true_implies, jargs_n, jargs_r, jargs_i, List.cons_append, List.nil_append, true_and, Nat.reduceEqDiff, reduceIte, ft_X7_fraction_0, ft_X7_fraction_1, ft_X7_fraction_4, ft_X7_fraction_5, ft_X7_fraction_6, ft_X7_fraction_9, ft_X7_fraction_10, ft_X7_fraction_11, ft_X7_fraction_12, ft_X7_fraction_14, ft_X7_fraction_16, ft_X7_fraction_19, ft_X7_fraction_20, ft_X7_fraction_22, ft_X7_fraction_23, ft_X7_fraction_25, ft_X7_fraction_27, ft_X7_fraction_28, ft_X7_fraction_30, ft_X7_fraction_32, ft_X7_fraction_35, ft_X7_fraction_36, ft_X7_fraction_39, ft_X7_fraction_40, ft_X7_fraction_41, ft_X7_fraction_42, ft_X7_fraction_45, ft_X7_fraction_46, ft_X7_fraction_47, ft_X7_fraction_48]
  have hl := lp_X7_fraction (nb := nb) hg hQ 50
  by_cases h0 : a < 0
  · have e : absF a = -a := by unfold absF; rw [if_neg (Int32.not_le.mpr h0), Int32.zero_sub]
    simp only [Int32.not_le.mpr h0, not_true_eq_false, not_false_eq_true, true_implies, false_implies, implies_true, and_true, true_and, forall_const]
    rw [e] at hl he
    exact hl (-a) b none he rfl
  · have e : absF a = a := by unfold absF; rw [if_pos (Int32.not_lt.mp h0)]
    simp only [Int32.not_lt.mp h0, not_true_eq_false, not_false_eq_true, true_implies, false_implies, implies_true, and_true, true_and, forall_const]
    rw [e] at hl he
    exact hl a b none he rfl
theorem s_X7_fraction {nb : Nat} {mem : jM} {a b u : Int32} {Q : jQ} (he : euP 50 (absF a) b) (hg : ¬ gdF 50 (absF a) b = 0) (hQ : Q (some (.int (fracF a b u))) mem) : S_X7_fraction nb [.int a, .int b, .int u] mem Q := ⟨a, b, u, rfl, he, hg, hQ⟩
/-- a set of few posts or cars has as many as its bits -/
def onesF (x : Int32) : Int32 := 0 + ((x >>> ((0 : Int32) &&& 31)) &&& 1) + ((x >>> ((1 : Int32) &&& 31)) &&& 1) + ((x >>> ((2 : Int32) &&& 31)) &&& 1) + ((x >>> ((3 : Int32) &&& 31)) &&& 1) + ((x >>> ((4 : Int32) &&& 31)) &&& 1) + ((x >>> ((5 : Int32) &&& 31)) &&& 1)
def F_X7_ones_0 : Nat → jT := fun pc => (bif Nat.blt pc 4 then (bif Nat.blt pc 2 then (bif Nat.blt pc 1 then (bif Nat.beq pc 0 then J_iconst 0 1 else jbad) else (bif Nat.beq pc 1 then J_istore 1 2 else jbad)) else (bif Nat.blt pc 3 then (bif Nat.beq pc 2 then J_iconst 0 3 else jbad) else (bif Nat.beq pc 3 then J_istore 2 4 else jbad))) else (bif Nat.blt pc 7 then (bif Nat.blt pc 5 then (bif Nat.beq pc 4 then J_iload 2 5 else jbad) else (bif Nat.beq pc 5 then J_iconst 6 7 else jbad)) else (bif Nat.blt pc 10 then (bif Nat.beq pc 7 then J_icge 24 10 else jbad) else (bif Nat.blt pc 11 then (bif Nat.beq pc 10 then J_iload 1 11 else jbad) else (bif Nat.beq pc 11 then J_iload 0 12 else jbad)))))
theorem ftl_X7_ones_0 : F_X7_ones_0 0 = J_iconst 0 1 := rfl
theorem ftl_X7_ones_1 : F_X7_ones_0 1 = J_istore 1 2 := rfl
theorem ftl_X7_ones_2 : F_X7_ones_0 2 = J_iconst 0 3 := rfl
theorem ftl_X7_ones_3 : F_X7_ones_0 3 = J_istore 2 4 := rfl
theorem ftl_X7_ones_4 : F_X7_ones_0 4 = J_iload 2 5 := rfl
theorem ftl_X7_ones_5 : F_X7_ones_0 5 = J_iconst 6 7 := rfl
theorem ftl_X7_ones_7 : F_X7_ones_0 7 = J_icge 24 10 := rfl
theorem ftl_X7_ones_10 : F_X7_ones_0 10 = J_iload 1 11 := rfl
theorem ftl_X7_ones_11 : F_X7_ones_0 11 = J_iload 0 12 := rfl
theorem F_X7_ones_0_ok : jOK Y_X7_ones none (F_X7_ones_0) := (jOK_node (jOK_node (jOK_node (jOK_leaf (sn_iconst dX7_ones_0 rfl rfl)) (jOK_leaf (sn_istore_n dX7_ones_1 rfl rfl (by decide)))) (jOK_node (jOK_leaf (sn_iconst dX7_ones_2 rfl rfl)) (jOK_leaf (sn_istore_n dX7_ones_3 rfl rfl (by decide))))) (jOK_node (jOK_node (jOK_leaf (sn_iload_n dX7_ones_4 rfl rfl)) (jOK_leaf (sn_bipush dX7_ones_5 rfl rfl))) (jOK_node (jOK_leaf (sn_icge dX7_ones_7 rfl rfl)) (jOK_node (jOK_leaf (sn_iload_n dX7_ones_10 rfl rfl)) (jOK_leaf (sn_iload_n dX7_ones_11 rfl rfl))))))
def F_X7_ones_12 : Nat → jT := fun pc => (bif Nat.blt pc 17 then (bif Nat.blt pc 14 then (bif Nat.blt pc 13 then (bif Nat.beq pc 12 then J_iload 2 13 else jbad) else (bif Nat.beq pc 13 then J_ishr 14 else jbad)) else (bif Nat.blt pc 15 then (bif Nat.beq pc 14 then J_iconst 1 15 else jbad) else (bif Nat.blt pc 16 then (bif Nat.beq pc 15 then J_iand 16 else jbad) else (bif Nat.beq pc 16 then J_iadd 17 else jbad)))) else (bif Nat.blt pc 21 then (bif Nat.blt pc 18 then (bif Nat.beq pc 17 then J_istore 1 18 else jbad) else (bif Nat.beq pc 18 then J_iinc 2 1 21 else jbad)) else (bif Nat.blt pc 24 then (bif Nat.beq pc 21 then J_goto 4 else jbad) else (bif Nat.blt pc 25 then (bif Nat.beq pc 24 then J_iload 1 25 else jbad) else (bif Nat.beq pc 25 then J_ireturn 0 0 else jbad)))))
theorem ftl_X7_ones_12 : F_X7_ones_12 12 = J_iload 2 13 := rfl
theorem ftl_X7_ones_13 : F_X7_ones_12 13 = J_ishr 14 := rfl
theorem ftl_X7_ones_14 : F_X7_ones_12 14 = J_iconst 1 15 := rfl
theorem ftl_X7_ones_15 : F_X7_ones_12 15 = J_iand 16 := rfl
theorem ftl_X7_ones_16 : F_X7_ones_12 16 = J_iadd 17 := rfl
theorem ftl_X7_ones_17 : F_X7_ones_12 17 = J_istore 1 18 := rfl
theorem ftl_X7_ones_18 : F_X7_ones_12 18 = J_iinc 2 1 21 := rfl
theorem ftl_X7_ones_21 : F_X7_ones_12 21 = J_goto 4 := rfl
theorem ftl_X7_ones_24 : F_X7_ones_12 24 = J_iload 1 25 := rfl
theorem ftl_X7_ones_25 : F_X7_ones_12 25 = J_ireturn 0 0 := rfl
theorem F_X7_ones_12_ok : jOK Y_X7_ones none (F_X7_ones_12) := (jOK_node (jOK_node (jOK_node (jOK_leaf (sn_iload_n dX7_ones_12 rfl rfl)) (jOK_leaf (sn_ishr dX7_ones_13 rfl))) (jOK_node (jOK_leaf (sn_iconst dX7_ones_14 rfl rfl)) (jOK_node (jOK_leaf (sn_iand dX7_ones_15 rfl)) (jOK_leaf (sn_iadd dX7_ones_16 rfl))))) (jOK_node (jOK_node (jOK_leaf (sn_istore_n dX7_ones_17 rfl rfl (by decide))) (jOK_leaf (sn_iinc dX7_ones_18 rfl rfl (by decide)))) (jOK_node (jOK_leaf (sn_goto dX7_ones_21 rfl)) (jOK_node (jOK_leaf (sn_iload_n dX7_ones_24 rfl rfl)) (jOK_leaf (sn_ireturn dX7_ones_25 rfl rfl))))))
def F_X7_ones_0_25 : Nat → jT := fun pc => bif Nat.blt pc 12 then F_X7_ones_0 pc else F_X7_ones_12 pc
theorem F_X7_ones_0_25_l {pc : Nat} (h : Nat.blt pc 12 = true) : F_X7_ones_0_25 pc = F_X7_ones_0 pc := by unfold F_X7_ones_0_25; rw [h]; rfl
theorem F_X7_ones_0_25_r {pc : Nat} (h : Nat.blt pc 12 = false) : F_X7_ones_0_25 pc = F_X7_ones_12 pc := by unfold F_X7_ones_0_25; rw [h]; rfl
theorem F_X7_ones_0_25_ok : jOK Y_X7_ones none (F_X7_ones_0_25) := jOK_node (F_X7_ones_0_ok) (F_X7_ones_12_ok)
def F_X7_ones : Nat → jT := F_X7_ones_0_25
theorem OK_X7_ones : jOK Y_X7_ones none (F_X7_ones) := F_X7_ones_0_25_ok
theorem ft_X7_ones_0 : F_X7_ones 0 = J_iconst 0 1 := (F_X7_ones_0_25_l rfl).trans (ftl_X7_ones_0)
theorem ft_X7_ones_1 : F_X7_ones 1 = J_istore 1 2 := (F_X7_ones_0_25_l rfl).trans (ftl_X7_ones_1)
theorem ft_X7_ones_2 : F_X7_ones 2 = J_iconst 0 3 := (F_X7_ones_0_25_l rfl).trans (ftl_X7_ones_2)
theorem ft_X7_ones_3 : F_X7_ones 3 = J_istore 2 4 := (F_X7_ones_0_25_l rfl).trans (ftl_X7_ones_3)
theorem ft_X7_ones_4 : F_X7_ones 4 = J_iload 2 5 := (F_X7_ones_0_25_l rfl).trans (ftl_X7_ones_4)
theorem ft_X7_ones_5 : F_X7_ones 5 = J_iconst 6 7 := (F_X7_ones_0_25_l rfl).trans (ftl_X7_ones_5)
theorem ft_X7_ones_7 : F_X7_ones 7 = J_icge 24 10 := (F_X7_ones_0_25_l rfl).trans (ftl_X7_ones_7)
theorem ft_X7_ones_10 : F_X7_ones 10 = J_iload 1 11 := (F_X7_ones_0_25_l rfl).trans (ftl_X7_ones_10)
theorem ft_X7_ones_11 : F_X7_ones 11 = J_iload 0 12 := (F_X7_ones_0_25_l rfl).trans (ftl_X7_ones_11)
theorem ft_X7_ones_12 : F_X7_ones 12 = J_iload 2 13 := (F_X7_ones_0_25_r rfl).trans (ftl_X7_ones_12)
theorem ft_X7_ones_13 : F_X7_ones 13 = J_ishr 14 := (F_X7_ones_0_25_r rfl).trans (ftl_X7_ones_13)
theorem ft_X7_ones_14 : F_X7_ones 14 = J_iconst 1 15 := (F_X7_ones_0_25_r rfl).trans (ftl_X7_ones_14)
theorem ft_X7_ones_15 : F_X7_ones 15 = J_iand 16 := (F_X7_ones_0_25_r rfl).trans (ftl_X7_ones_15)
theorem ft_X7_ones_16 : F_X7_ones 16 = J_iadd 17 := (F_X7_ones_0_25_r rfl).trans (ftl_X7_ones_16)
theorem ft_X7_ones_17 : F_X7_ones 17 = J_istore 1 18 := (F_X7_ones_0_25_r rfl).trans (ftl_X7_ones_17)
theorem ft_X7_ones_18 : F_X7_ones 18 = J_iinc 2 1 21 := (F_X7_ones_0_25_r rfl).trans (ftl_X7_ones_18)
theorem ft_X7_ones_21 : F_X7_ones 21 = J_goto 4 := (F_X7_ones_0_25_r rfl).trans (ftl_X7_ones_21)
theorem ft_X7_ones_24 : F_X7_ones 24 = J_iload 1 25 := (F_X7_ones_0_25_r rfl).trans (ftl_X7_ones_24)
theorem ft_X7_ones_25 : F_X7_ones 25 = J_ireturn 0 0 := (F_X7_ones_0_25_r rfl).trans (ftl_X7_ones_25)
def S_X7_ones : jSp := fun nb vs mem Q => jcs vs ≤ 3 ∧ jrun F_X7_ones [] 100 Q (fun _ _ _ _ _ => False) 0 (jargs vs ++ [none, none]) [] mem (nb, 0, 0)
theorem ok_X7_ones : jMeets Y_X7_ones S_X7_ones := fun _ _ _ _ h => Ok.inl OK_X7_ones 100 [none, none] pn7 rfl h
theorem s_X7_ones {nb : Nat} {mem : jM} {x : Int32} {Q : jQ} : S_X7_ones nb [.int x] mem Q = Q (some (.int (onesF x))) mem := by
  refine (eq_le rfl).trans ?_
  simp -implicitDefEqProofs only [jr_0, jr_1, jr_2, j_iconst, j_lconst, j_iload0, j_aload0, j_istore0, j_astore0, j_iinc0, j_iload1, j_aload1, j_istore1, j_astore1, j_iinc1, j_iload2, j_aload2, j_istore2, j_astore2, j_iinc2, j_iload3, j_aload3, j_istore3, j_astore3, j_iinc3, j_iload4, j_aload4, j_istore4, j_astore4, j_iinc4, j_iload5, j_aload5, j_istore5, j_astore5, j_iinc5, j_iload6, j_aload6, j_istore6, j_astore6, j_iinc6, j_iload7, j_aload7, j_istore7, j_astore7, j_iinc7, j_iload8, j_aload8, j_istore8, j_astore8, j_iinc8, j_iadd, j_isub, j_imul, j_iand, j_ior, j_ixor, j_ishl, j_ishr, j_iushr, j_idiv, j_irem, j_ineg, j_ladd, j_lmul, j_land, j_lor, j_lcmp, j_lushr, j_lshl, j_i2l, j_l2i, j_dupI, j_dupR, j_popI, j_dup2, j_ifeq, j_iceq, j_ifne, j_icne, j_iflt, j_iclt, j_ifge, j_icge, j_ifgt, j_icgt, j_ifle, j_icle, j_goto, j_tsw, j_sw0, j_sw1, j_ireturn, j_zreturn, j_lreturn, j_return, j_getfield, j_putI, j_putJ, j_putR, j_iaload, j_baload, j_iastore, j_bastore, j_aaload, j_q, j_aastore, j_acopy, j_mmin, j_mmax, j_mabs, j_objinit, j_new, j_newI, j_newQ, j_sld, j_slen, j_callV0, j_callI0, j_callS0, j_callV1, j_callI1, j_callS1, j_callV2, j_callI2, j_callS2, j_callV3, j_callS3, j_callV4, j_callS4, j_callV5, j_callS5, j_pushS, j_pushN, j_sh0, j_sh1, j_sh2, j_sh3, j_sh4, Int32.reduceAdd, Int32.reduceMul, Int32.reduceSub, Int32.reduceLT, Int32.reduceLE, eq_self, i32_10, i32_01, ne_eq, hrow_s, hrow_n, ne10, ne100, ne1000, ne7, ne4, ne14, ne9973, or_true, true_or, or_false, false_or, not_true_eq_false, not_false_eq_true, false_implies, implies_true, and_true, forall_const, true_implies, jargs_n, jargs_r, jargs_i, List.cons_append, List.nil_append, true_and, Nat.reduceEqDiff, reduceIte, ft_X7_ones_0, ft_X7_ones_1, ft_X7_ones_2, ft_X7_ones_3, ft_X7_ones_4, ft_X7_ones_5, ft_X7_ones_7, ft_X7_ones_10, ft_X7_ones_11, ft_X7_ones_12, ft_X7_ones_13, ft_X7_ones_14, ft_X7_ones_15, ft_X7_ones_16, ft_X7_ones_17, ft_X7_ones_18, ft_X7_ones_21, ft_X7_ones_24, ft_X7_ones_25]
  rfl
def F_X7_signedBy_0 : Nat → jT := fun pc => (bif Nat.blt pc 9 then (bif Nat.blt pc 4 then (bif Nat.blt pc 2 then (bif Nat.beq pc 0 then J_iconst 31 2 else jbad) else (bif Nat.blt pc 3 then (bif Nat.beq pc 2 then J_iload 0 3 else jbad) else (bif Nat.beq pc 3 then J_imul 4 else jbad))) else (bif Nat.blt pc 7 then (bif Nat.blt pc 6 then (bif Nat.beq pc 4 then J_iconst 7 6 else jbad) else (bif Nat.beq pc 6 then J_iload 1 7 else jbad)) else (bif Nat.blt pc 8 then (bif Nat.beq pc 7 then J_imul 8 else jbad) else (bif Nat.beq pc 8 then J_iadd 9 else jbad)))) else (bif Nat.blt pc 12 then (bif Nat.blt pc 10 then (bif Nat.beq pc 9 then J_iload 2 10 else jbad) else (bif Nat.blt pc 11 then (bif Nat.beq pc 10 then J_iadd 11 else jbad) else (bif Nat.beq pc 11 then J_iconst 1 12 else jbad))) else (bif Nat.blt pc 16 then (bif Nat.blt pc 13 then (bif Nat.beq pc 12 then J_iadd 13 else jbad) else (bif Nat.beq pc 13 then J_iconst 9973 16 else jbad)) else (bif Nat.blt pc 17 then (bif Nat.beq pc 16 then J_irem 17 else jbad) else (bif Nat.beq pc 17 then J_ireturn 0 0 else jbad)))))
theorem ftl_X7_signedBy_0 : F_X7_signedBy_0 0 = J_iconst 31 2 := rfl
theorem ftl_X7_signedBy_2 : F_X7_signedBy_0 2 = J_iload 0 3 := rfl
theorem ftl_X7_signedBy_3 : F_X7_signedBy_0 3 = J_imul 4 := rfl
theorem ftl_X7_signedBy_4 : F_X7_signedBy_0 4 = J_iconst 7 6 := rfl
theorem ftl_X7_signedBy_6 : F_X7_signedBy_0 6 = J_iload 1 7 := rfl
theorem ftl_X7_signedBy_7 : F_X7_signedBy_0 7 = J_imul 8 := rfl
theorem ftl_X7_signedBy_8 : F_X7_signedBy_0 8 = J_iadd 9 := rfl
theorem ftl_X7_signedBy_9 : F_X7_signedBy_0 9 = J_iload 2 10 := rfl
theorem ftl_X7_signedBy_10 : F_X7_signedBy_0 10 = J_iadd 11 := rfl
theorem ftl_X7_signedBy_11 : F_X7_signedBy_0 11 = J_iconst 1 12 := rfl
theorem ftl_X7_signedBy_12 : F_X7_signedBy_0 12 = J_iadd 13 := rfl
theorem ftl_X7_signedBy_13 : F_X7_signedBy_0 13 = J_iconst 9973 16 := rfl
theorem ftl_X7_signedBy_16 : F_X7_signedBy_0 16 = J_irem 17 := rfl
theorem ftl_X7_signedBy_17 : F_X7_signedBy_0 17 = J_ireturn 0 0 := rfl
theorem F_X7_signedBy_0_ok : jOK Y_X7_signedBy none (F_X7_signedBy_0) := (jOK_node (jOK_node (jOK_node (jOK_leaf (sn_bipush dX7_signedBy_0 rfl rfl)) (jOK_node (jOK_leaf (sn_iload_n dX7_signedBy_2 rfl rfl)) (jOK_leaf (sn_imul dX7_signedBy_3 rfl)))) (jOK_node (jOK_node (jOK_leaf (sn_bipush dX7_signedBy_4 rfl rfl)) (jOK_leaf (sn_iload_n dX7_signedBy_6 rfl rfl))) (jOK_node (jOK_leaf (sn_imul dX7_signedBy_7 rfl)) (jOK_leaf (sn_iadd dX7_signedBy_8 rfl))))) (jOK_node (jOK_node (jOK_leaf (sn_iload_n dX7_signedBy_9 rfl rfl)) (jOK_node (jOK_leaf (sn_iadd dX7_signedBy_10 rfl)) (jOK_leaf (sn_iconst dX7_signedBy_11 rfl rfl)))) (jOK_node (jOK_node (jOK_leaf (sn_iadd dX7_signedBy_12 rfl)) (jOK_leaf (sn_sipush dX7_signedBy_13 rfl rfl))) (jOK_node (jOK_leaf (sn_irem dX7_signedBy_16 rfl)) (jOK_leaf (sn_ireturn dX7_signedBy_17 rfl rfl))))))
def F_X7_signedBy : Nat → jT := F_X7_signedBy_0
theorem OK_X7_signedBy : jOK Y_X7_signedBy none (F_X7_signedBy) := F_X7_signedBy_0_ok
theorem ft_X7_signedBy_0 : F_X7_signedBy 0 = J_iconst 31 2 := ftl_X7_signedBy_0
theorem ft_X7_signedBy_2 : F_X7_signedBy 2 = J_iload 0 3 := ftl_X7_signedBy_2
theorem ft_X7_signedBy_3 : F_X7_signedBy 3 = J_imul 4 := ftl_X7_signedBy_3
theorem ft_X7_signedBy_4 : F_X7_signedBy 4 = J_iconst 7 6 := ftl_X7_signedBy_4
theorem ft_X7_signedBy_6 : F_X7_signedBy 6 = J_iload 1 7 := ftl_X7_signedBy_6
theorem ft_X7_signedBy_7 : F_X7_signedBy 7 = J_imul 8 := ftl_X7_signedBy_7
theorem ft_X7_signedBy_8 : F_X7_signedBy 8 = J_iadd 9 := ftl_X7_signedBy_8
theorem ft_X7_signedBy_9 : F_X7_signedBy 9 = J_iload 2 10 := ftl_X7_signedBy_9
theorem ft_X7_signedBy_10 : F_X7_signedBy 10 = J_iadd 11 := ftl_X7_signedBy_10
theorem ft_X7_signedBy_11 : F_X7_signedBy 11 = J_iconst 1 12 := ftl_X7_signedBy_11
theorem ft_X7_signedBy_12 : F_X7_signedBy 12 = J_iadd 13 := ftl_X7_signedBy_12
theorem ft_X7_signedBy_13 : F_X7_signedBy 13 = J_iconst 9973 16 := ftl_X7_signedBy_13
theorem ft_X7_signedBy_16 : F_X7_signedBy 16 = J_irem 17 := ftl_X7_signedBy_16
theorem ft_X7_signedBy_17 : F_X7_signedBy 17 = J_ireturn 0 0 := ftl_X7_signedBy_17
def S_X7_signedBy : jSp := fun nb vs mem Q => jcs vs ≤ 3 ∧ jrun F_X7_signedBy [] 40 Q (fun _ _ _ _ _ => False) 0 (jargs vs ++ []) [] mem (nb, 0, 0)
theorem ok_X7_signedBy : jMeets Y_X7_signedBy S_X7_signedBy := fun _ _ _ _ h => Ok.inl OK_X7_signedBy 40 [] pn7 rfl h
theorem s_X7_signedBy {nb : Nat} {mem : jM} {a x p : Int32} {Q : jQ} : S_X7_signedBy nb [.int a, .int x, .int p] mem Q = Q (some (.int (signF a p x))) mem := by
  refine (eq_le rfl).trans ?_
  simp -implicitDefEqProofs only [jr_0, jr_1, jr_2, j_iconst, j_lconst, j_iload0, j_aload0, j_istore0, j_astore0, j_iinc0, j_iload1, j_aload1, j_istore1, j_astore1, j_iinc1, j_iload2, j_aload2, j_istore2, j_astore2, j_iinc2, j_iload3, j_aload3, j_istore3, j_astore3, j_iinc3, j_iload4, j_aload4, j_istore4, j_astore4, j_iinc4, j_iload5, j_aload5, j_istore5, j_astore5, j_iinc5, j_iload6, j_aload6, j_istore6, j_astore6, j_iinc6, j_iload7, j_aload7, j_istore7, j_astore7, j_iinc7, j_iload8, j_aload8, j_istore8, j_astore8, j_iinc8, j_iadd, j_isub, j_imul, j_iand, j_ior, j_ixor, j_ishl, j_ishr, j_iushr, j_idiv, j_irem, j_ineg, j_ladd, j_lmul, j_land, j_lor, j_lcmp, j_lushr, j_lshl, j_i2l, j_l2i, j_dupI, j_dupR, j_popI, j_dup2, j_ifeq, j_iceq, j_ifne, j_icne, j_iflt, j_iclt, j_ifge, j_icge, j_ifgt, j_icgt, j_ifle, j_icle, j_goto, j_tsw, j_sw0, j_sw1, j_ireturn, j_zreturn, j_lreturn, j_return, j_getfield, j_putI, j_putJ, j_putR, j_iaload, j_baload, j_iastore, j_bastore, j_aaload, j_q, j_aastore, j_acopy, j_mmin, j_mmax, j_mabs, j_objinit, j_new, j_newI, j_newQ, j_sld, j_slen, j_callV0, j_callI0, j_callS0, j_callV1, j_callI1, j_callS1, j_callV2, j_callI2, j_callS2, j_callV3, j_callS3, j_callV4, j_callS4, j_callV5, j_callS5, j_pushS, j_pushN, j_sh0, j_sh1, j_sh2, j_sh3, j_sh4, Int32.reduceAdd, Int32.reduceMul, Int32.reduceSub, Int32.reduceLT, Int32.reduceLE, eq_self, i32_10, i32_01, ne_eq, hrow_s, hrow_n, ne10, ne100, ne1000, ne7, ne4, ne14, ne9973, or_true, true_or, or_false, false_or, not_true_eq_false, not_false_eq_true, false_implies, implies_true, and_true, forall_const, true_implies, jargs_n, jargs_r, jargs_i, List.cons_append, List.nil_append, true_and, Nat.reduceEqDiff, reduceIte, ft_X7_signedBy_0, ft_X7_signedBy_2, ft_X7_signedBy_3, ft_X7_signedBy_4, ft_X7_signedBy_6, ft_X7_signedBy_7, ft_X7_signedBy_8, ft_X7_signedBy_9, ft_X7_signedBy_10, ft_X7_signedBy_11, ft_X7_signedBy_12, ft_X7_signedBy_13, ft_X7_signedBy_16, ft_X7_signedBy_17]
  rfl
/-! the site, as both sides hold it -/
def SR (C : Nat → Nat → Int32) (P K : Nat) : Prop := SvC C P K ∧ (C 71 2 = nI P ∧ C 71 4 = nI K ∧ C 71 9 = C 3 5) ∧ (∀ p, p < 4 → C 73 p = C 4 p) ∧ ∀ c, c < 6 → C 74 c = C 5 (4 * c) ∧ C 75 c = C 5 (4 * c + 1) ∧ C 76 c = C 5 (4 * c + 2) ∧ C 77 c = C 5 (4 * c + 3)
section SRS
variable {C : Nat → Nat → Int32} {P K : Nat}
theorem SR.sv (s : SR C P K) : Sv (C 5) (C 4) P K := s.1.1
theorem SR.h4 (s : SR C P K) : P ≤ 4 := s.1.1.1.1
theorem SR.h6 (s : SR C P K) : K ≤ 6 := s.1.1.1.2
theorem SR.mP (s : SR C P K) : C 71 2 = nI P := s.2.1.1
theorem SR.mK (s : SR C P K) : C 71 4 = nI K := s.2.1.2.1
theorem SR.mpat (s : SR C P K) : C 71 9 = C 3 5 := s.2.1.2.2
theorem SR.am (s : SR C P K) {p : Nat} (hp : p < 4) : C 73 p = C 4 p := s.2.2.1 p hp
theorem SR.nd (s : SR C P K) {c : Nat} (hc : c < 6) : C 74 c = C 5 (4 * c) := (s.2.2.2 c hc).1
theorem SR.mx (s : SR C P K) {c : Nat} (hc : c < 6) : C 75 c = C 5 (4 * c + 1) := (s.2.2.2 c hc).2.1
theorem SR.rk (s : SR C P K) {c : Nat} (hc : c < 6) : C 76 c = C 5 (4 * c + 2) := (s.2.2.2 c hc).2.2.1
theorem SR.kd (s : SR C P K) {c : Nat} (hc : c < 6) : C 77 c = C 5 (4 * c + 3) := (s.2.2.2 c hc).2.2.2
/-- the site's rows are the same -/
theorem SR.eq {C' : Nat → Nat → Int32} (s : SR C P K) (h3 : C' 3 = C 3) (h4 : C' 4 = C 4) (h5 : C' 5 = C 5) (hP : C' 71 2 = C 71 2) (hK : C' 71 4 = C 71 4) (hp : C' 71 9 = C 71 9) (h73 : C' 73 = C 73) (h74 : C' 74 = C 74) (h75 : C' 75 = C 75) (h76 : C' 76 = C 76) (h77 : C' 77 = C 77) : SR C' P K := by
  unfold SR SvC
  rw [h3, h4, h5, hP, hK, hp, h73, h74, h75, h76, h77]
  exact s
end SRS
/-- what the model's step on row r leaves: all but r, the order, the gifts and how many are ordered -/
def Mo (r : Nat) (C C' : Nat → Nat → Int32) : Prop := (∀ a, a ≠ r → a ≠ 71 → a ≠ 86 → a ≠ 87 → C' a = C a) ∧ ∀ i, i ≠ 25 → C' 71 i = C 71 i
section MO
variable {C C' : Nat → Nat → Int32} {r : Nat}
theorem Mo.rf : Mo r C C := ⟨fun _ _ _ _ _ => rfl, fun _ _ => rfl⟩
theorem Mo.hr (h : Mo r C C') (hr : jMr r) {ρ : Nat → Int32} : Mo r C (hrow C' r ρ) := ⟨fun a h1 h2 h3 h4 => by rw [hrow_n h1]; exact h.1 a h1 h2 h3 h4, fun i hi => by rw [hrow_n (by rcases hr with rfl | rfl <;> decide)]; exact h.2 i hi⟩
theorem Mo.h86 (h : Mo r C C') {ρ : Nat → Int32} : Mo r C (hrow C' 86 ρ) := ⟨fun a h1 h2 h3 h4 => by rw [hrow_n h3]; exact h.1 a h1 h2 h3 h4, fun i hi => by rw [hrow_n (by decide)]; exact h.2 i hi⟩
theorem Mo.h87 (h : Mo r C C') {ρ : Nat → Int32} : Mo r C (hrow C' 87 ρ) := ⟨fun a h1 h2 h3 h4 => by rw [hrow_n h4]; exact h.1 a h1 h2 h3 h4, fun i hi => by rw [hrow_n (by decide)]; exact h.2 i hi⟩
theorem Mo.h71 (h : Mo r C C') {x : Int32} : Mo r C (hrow C' 71 (upd (C' 71) 25 x)) := ⟨fun a h1 h2 h3 h4 => by rw [hrow_n h2]; exact h.1 a h1 h2 h3 h4, fun i hi => by rw [hrow_s, upd_ne hi]; exact h.2 i hi⟩
theorem Mo.tr {C'' : Nat → Nat → Int32} (h : Mo r C C') (h' : Mo r C' C'') : Mo r C C'' := ⟨fun a h1 h2 h3 h4 => (h'.1 a h1 h2 h3 h4).trans (h.1 a h1 h2 h3 h4), fun i hi => (h'.2 i hi).trans (h.2 i hi)⟩
theorem Mo.row (h : Mo r C C') (hr : jMr r) (a : Nat) (ha : (a != 78 && (a != 79 && (a != 71 && (a != 86 && a != 87)))) = true) : C' a = C a := by
  simp at ha
  exact h.1 a (by rcases hr with rfl | rfl <;> omega) ha.2.2.1 ha.2.2.2.1 ha.2.2.2.2
theorem SR.mo {P K : Nat} (s : SR C P K) (h : Mo r C C') (hr : jMr r) : SR C' P K := s.eq (h.row hr 3 rfl) (h.row hr 4 rfl) (h.row hr 5 rfl) (h.2 2 (by decide)) (h.2 4 (by decide)) (h.2 9 (by decide)) (h.row hr 73 rfl) (h.row hr 74 rfl) (h.row hr 75 rfl) (h.row hr 76 rfl) (h.row hr 77 rfl)
end MO
/-- the model's liar m is the class's suspect l, as far as cars go -/
def Li (l m : Int32) : Prop := ∀ c, c < 6 → (nI c = l) = (nI c = m)
def F_X7_isPost_0 : Nat → jT := fun pc => (bif Nat.blt pc 6 then (bif Nat.blt pc 2 then (bif Nat.blt pc 1 then (bif Nat.beq pc 0 then J_iload 1 1 else jbad) else (bif Nat.beq pc 1 then J_iconst 0 2 else jbad)) else (bif Nat.blt pc 3 then (bif Nat.beq pc 2 then J_aload 0 3 else jbad) else (bif Nat.beq pc 3 then J_getfield 7 2 6 else jbad))) else (bif Nat.blt pc 8 then (bif Nat.blt pc 7 then (bif Nat.beq pc 6 then J_iconst 1 7 else jbad) else (bif Nat.beq pc 7 then J_isub 8 else jbad)) else (bif Nat.blt pc 11 then (bif Nat.beq pc 8 then J_callS S_X7_in 3 11 else jbad) else (bif Nat.beq pc 11 then J_zreturn 0 0 else jbad))))
theorem ftl_X7_isPost_0 : F_X7_isPost_0 0 = J_iload 1 1 := rfl
theorem ftl_X7_isPost_1 : F_X7_isPost_0 1 = J_iconst 0 2 := rfl
theorem ftl_X7_isPost_2 : F_X7_isPost_0 2 = J_aload 0 3 := rfl
theorem ftl_X7_isPost_3 : F_X7_isPost_0 3 = J_getfield 7 2 6 := rfl
theorem ftl_X7_isPost_6 : F_X7_isPost_0 6 = J_iconst 1 7 := rfl
theorem ftl_X7_isPost_7 : F_X7_isPost_0 7 = J_isub 8 := rfl
theorem ftl_X7_isPost_8 : F_X7_isPost_0 8 = J_callS S_X7_in 3 11 := rfl
theorem ftl_X7_isPost_11 : F_X7_isPost_0 11 = J_zreturn 0 0 := rfl
theorem F_X7_isPost_0_ok : jOK Y_X7_isPost none (F_X7_isPost_0) := (jOK_node (jOK_node (jOK_node (jOK_leaf (sn_iload_n dX7_isPost_0 rfl rfl)) (jOK_leaf (sn_iconst dX7_isPost_1 rfl rfl))) (jOK_node (jOK_leaf (sn_aload_n dX7_isPost_2 rfl rfl)) (jOK_leaf (sn_getfield dX7_isPost_3 rfl rfl (by decide) tw_616 jin7)))) (jOK_node (jOK_node (jOK_leaf (sn_iconst dX7_isPost_6 rfl rfl)) (jOK_leaf (sn_isub dX7_isPost_7 rfl))) (jOK_node (jOK_leaf (sn_callS (Y' := Y_X7_in) ok_X7_in dX7_isPost_8 rfl rfl tw_737 tw_738 tw_8 jc_X7_in ⟨by decide, by decide, rfl⟩ ⟨by decide, by decide⟩)) (jOK_leaf (sn_zreturn dX7_isPost_11 rfl rfl)))))
def F_X7_isPost : Nat → jT := F_X7_isPost_0
theorem OK_X7_isPost : jOK Y_X7_isPost none (F_X7_isPost) := F_X7_isPost_0_ok
theorem ft_X7_isPost_0 : F_X7_isPost 0 = J_iload 1 1 := ftl_X7_isPost_0
theorem ft_X7_isPost_1 : F_X7_isPost 1 = J_iconst 0 2 := ftl_X7_isPost_1
theorem ft_X7_isPost_2 : F_X7_isPost 2 = J_aload 0 3 := ftl_X7_isPost_2
theorem ft_X7_isPost_3 : F_X7_isPost 3 = J_getfield 7 2 6 := ftl_X7_isPost_3
theorem ft_X7_isPost_6 : F_X7_isPost 6 = J_iconst 1 7 := ftl_X7_isPost_6
theorem ft_X7_isPost_7 : F_X7_isPost 7 = J_isub 8 := ftl_X7_isPost_7
theorem ft_X7_isPost_8 : F_X7_isPost 8 = J_callS S_X7_in 3 11 := ftl_X7_isPost_8
theorem ft_X7_isPost_11 : F_X7_isPost 11 = J_zreturn 0 0 := ftl_X7_isPost_11
def S_X7_isPost : jSp := fun nb vs mem Q => jcs vs ≤ 2 ∧ jrun F_X7_isPost [] 40 Q (fun _ _ _ _ _ => False) 0 (jargs vs ++ []) [] mem (nb, 0, 0)
theorem ok_X7_isPost : jMeets Y_X7_isPost S_X7_isPost := fun _ _ _ _ h => Ok.inl OK_X7_isPost 40 [] pn7 rfl h
theorem s_X7_isPost {nb P K : Nat} {C : Nat → Nat → Int32} {z : Nat → Int64} {p : Int32} {Q : jQ} (s : SR C P K) : S_X7_isPost nb [.ref 71, .int p] (memS 94 C z) Q = Q (some (.int (zb (okPost C p)))) (memS 94 C z) := by
  refine (eq_le rfl).trans ?_
  have e : (0 ≤ p ∧ p ≤ nI P - 1) = okPost C p := by
    unfold okPost
    rw [s.1.2.1]
    have h4 := s.h4
    rcases Nat.eq_zero_or_pos P with h | h
    · subst h
      have e1 : nI 0 - 1 = -1 := by decide
      have e2 : nI 0 = 0 := rfl
      rw [e1, e2]
      exact propext ⟨fun q => absurd (Int32.le_trans q.1 q.2) (by decide), fun q => absurd (Int32.lt_of_le_of_lt q.1 q.2) (by decide)⟩
    · have e1 : nI P - 1 = nI (P - 1) := nI_sub (b := 1) (by omega) (by omega)
      rw [e1]
      refine propext ⟨fun q => ⟨q.1, Int32.lt_of_le_of_lt q.2 (nI_lt (by omega) (by omega))⟩, fun q => ⟨q.1, ?_⟩⟩
      obtain ⟨k, hk, rfl⟩ := i32_rng (m := P) (by omega) (Int32.not_lt.mpr q.1) (Int32.not_le.mpr q.2)
      exact nI_le (by omega) (by omega)
  simp -implicitDefEqProofs only [jr_0, jr_1, jr_2, j_iconst, j_lconst, j_iload0, j_aload0, j_istore0, j_astore0, j_iinc0, j_iload1, j_aload1, j_istore1, j_astore1, j_iinc1, j_iload2, j_aload2, j_istore2, j_astore2, j_iinc2, j_iload3, j_aload3, j_istore3, j_astore3, j_iinc3, j_iload4, j_aload4, j_istore4, j_astore4, j_iinc4, j_iload5, j_aload5, j_istore5, j_astore5, j_iinc5, j_iload6, j_aload6, j_istore6, j_astore6, j_iinc6, j_iload7, j_aload7, j_istore7, j_astore7, j_iinc7, j_iload8, j_aload8, j_istore8, j_astore8, j_iinc8, j_iadd, j_isub, j_imul, j_iand, j_ior, j_ixor, j_ishl, j_ishr, j_iushr, j_idiv, j_irem, j_ineg, j_ladd, j_lmul, j_land, j_lor, j_lcmp, j_lushr, j_lshl, j_i2l, j_l2i, j_dupI, j_dupR, j_popI, j_dup2, j_ifeq, j_iceq, j_ifne, j_icne, j_iflt, j_iclt, j_ifge, j_icge, j_ifgt, j_icgt, j_ifle, j_icle, j_goto, j_tsw, j_sw0, j_sw1, j_ireturn, j_zreturn, j_lreturn, j_return, j_getfield, j_putI, j_putJ, j_putR, j_iaload, j_baload, j_iastore, j_bastore, j_aaload, j_q, j_aastore, j_acopy, j_mmin, j_mmax, j_mabs, j_objinit, j_new, j_newI, j_newQ, j_sld, j_slen, j_callV0, j_callI0, j_callS0, j_callV1, j_callI1, j_callS1, j_callV2, j_callI2, j_callS2, j_callV3, j_callS3, j_callV4, j_callS4, j_callV5, j_callS5, j_pushS, j_pushN, j_sh0, j_sh1, j_sh2, j_sh3, j_sh4, Int32.reduceAdd, Int32.reduceMul, Int32.reduceSub, Int32.reduceLT, Int32.reduceLE, eq_self, i32_10, i32_01, ne_eq, hrow_s, hrow_n, ne10, ne100, ne1000, ne7, ne4, ne14, ne9973, or_true, true_or, or_false, false_or, not_true_eq_false, not_false_eq_true, false_implies, implies_true, and_true, forall_const, true_implies, jargs_n, jargs_r, jargs_i, List.cons_append, List.nil_append, true_and, Nat.reduceEqDiff, reduceIte, ft_X7_isPost_0, ft_X7_isPost_1, ft_X7_isPost_2, ft_X7_isPost_3, ft_X7_isPost_6, ft_X7_isPost_7, ft_X7_isPost_8, ft_X7_isPost_11, fl_71_2, s.mP, s_X7_in, e, zb_01]
def F_X7_isCar_0 : Nat → jT := fun pc => (bif Nat.blt pc 6 then (bif Nat.blt pc 2 then (bif Nat.blt pc 1 then (bif Nat.beq pc 0 then J_iload 1 1 else jbad) else (bif Nat.beq pc 1 then J_iconst 0 2 else jbad)) else (bif Nat.blt pc 3 then (bif Nat.beq pc 2 then J_aload 0 3 else jbad) else (bif Nat.beq pc 3 then J_getfield 7 4 6 else jbad))) else (bif Nat.blt pc 8 then (bif Nat.blt pc 7 then (bif Nat.beq pc 6 then J_iconst 1 7 else jbad) else (bif Nat.beq pc 7 then J_isub 8 else jbad)) else (bif Nat.blt pc 11 then (bif Nat.beq pc 8 then J_callS S_X7_in 3 11 else jbad) else (bif Nat.beq pc 11 then J_zreturn 0 0 else jbad))))
theorem ftl_X7_isCar_0 : F_X7_isCar_0 0 = J_iload 1 1 := rfl
theorem ftl_X7_isCar_1 : F_X7_isCar_0 1 = J_iconst 0 2 := rfl
theorem ftl_X7_isCar_2 : F_X7_isCar_0 2 = J_aload 0 3 := rfl
theorem ftl_X7_isCar_3 : F_X7_isCar_0 3 = J_getfield 7 4 6 := rfl
theorem ftl_X7_isCar_6 : F_X7_isCar_0 6 = J_iconst 1 7 := rfl
theorem ftl_X7_isCar_7 : F_X7_isCar_0 7 = J_isub 8 := rfl
theorem ftl_X7_isCar_8 : F_X7_isCar_0 8 = J_callS S_X7_in 3 11 := rfl
theorem ftl_X7_isCar_11 : F_X7_isCar_0 11 = J_zreturn 0 0 := rfl
theorem F_X7_isCar_0_ok : jOK Y_X7_isCar none (F_X7_isCar_0) := (jOK_node (jOK_node (jOK_node (jOK_leaf (sn_iload_n dX7_isCar_0 rfl rfl)) (jOK_leaf (sn_iconst dX7_isCar_1 rfl rfl))) (jOK_node (jOK_leaf (sn_aload_n dX7_isCar_2 rfl rfl)) (jOK_leaf (sn_getfield dX7_isCar_3 rfl rfl (by decide) tw_618 jin7)))) (jOK_node (jOK_node (jOK_leaf (sn_iconst dX7_isCar_6 rfl rfl)) (jOK_leaf (sn_isub dX7_isCar_7 rfl))) (jOK_node (jOK_leaf (sn_callS (Y' := Y_X7_in) ok_X7_in dX7_isCar_8 rfl rfl tw_737 tw_738 tw_8 jc_X7_in ⟨by decide, by decide, rfl⟩ ⟨by decide, by decide⟩)) (jOK_leaf (sn_zreturn dX7_isCar_11 rfl rfl)))))
def F_X7_isCar : Nat → jT := F_X7_isCar_0
theorem OK_X7_isCar : jOK Y_X7_isCar none (F_X7_isCar) := F_X7_isCar_0_ok
theorem ft_X7_isCar_0 : F_X7_isCar 0 = J_iload 1 1 := ftl_X7_isCar_0
theorem ft_X7_isCar_1 : F_X7_isCar 1 = J_iconst 0 2 := ftl_X7_isCar_1
theorem ft_X7_isCar_2 : F_X7_isCar 2 = J_aload 0 3 := ftl_X7_isCar_2
theorem ft_X7_isCar_3 : F_X7_isCar 3 = J_getfield 7 4 6 := ftl_X7_isCar_3
theorem ft_X7_isCar_6 : F_X7_isCar 6 = J_iconst 1 7 := ftl_X7_isCar_6
theorem ft_X7_isCar_7 : F_X7_isCar 7 = J_isub 8 := ftl_X7_isCar_7
theorem ft_X7_isCar_8 : F_X7_isCar 8 = J_callS S_X7_in 3 11 := ftl_X7_isCar_8
theorem ft_X7_isCar_11 : F_X7_isCar 11 = J_zreturn 0 0 := ftl_X7_isCar_11
def S_X7_isCar : jSp := fun nb vs mem Q => jcs vs ≤ 2 ∧ jrun F_X7_isCar [] 40 Q (fun _ _ _ _ _ => False) 0 (jargs vs ++ []) [] mem (nb, 0, 0)
theorem ok_X7_isCar : jMeets Y_X7_isCar S_X7_isCar := fun _ _ _ _ h => Ok.inl OK_X7_isCar 40 [] pn7 rfl h
theorem s_X7_isCar {nb P K : Nat} {C : Nat → Nat → Int32} {z : Nat → Int64} {p : Int32} {Q : jQ} (s : SR C P K) : S_X7_isCar nb [.ref 71, .int p] (memS 94 C z) Q = Q (some (.int (zb (okCar C p)))) (memS 94 C z) := by
  refine (eq_le rfl).trans ?_
  have e : (0 ≤ p ∧ p ≤ nI K - 1) = okCar C p := by
    unfold okCar
    rw [s.1.2.2]
    have h4 := s.h6
    rcases Nat.eq_zero_or_pos K with h | h
    · subst h
      have e1 : nI 0 - 1 = -1 := by decide
      have e2 : nI 0 = 0 := rfl
      rw [e1, e2]
      exact propext ⟨fun q => absurd (Int32.le_trans q.1 q.2) (by decide), fun q => absurd (Int32.lt_of_le_of_lt q.1 q.2) (by decide)⟩
    · have e1 : nI K - 1 = nI (K - 1) := nI_sub (b := 1) (by omega) (by omega)
      rw [e1]
      refine propext ⟨fun q => ⟨q.1, Int32.lt_of_le_of_lt q.2 (nI_lt (by omega) (by omega))⟩, fun q => ⟨q.1, ?_⟩⟩
      obtain ⟨k, hk, rfl⟩ := i32_rng (m := K) (by omega) (Int32.not_lt.mpr q.1) (Int32.not_le.mpr q.2)
      exact nI_le (by omega) (by omega)
  simp -implicitDefEqProofs only [jr_0, jr_1, jr_2, j_iconst, j_lconst, j_iload0, j_aload0, j_istore0, j_astore0, j_iinc0, j_iload1, j_aload1, j_istore1, j_astore1, j_iinc1, j_iload2, j_aload2, j_istore2, j_astore2, j_iinc2, j_iload3, j_aload3, j_istore3, j_astore3, j_iinc3, j_iload4, j_aload4, j_istore4, j_astore4, j_iinc4, j_iload5, j_aload5, j_istore5, j_astore5, j_iinc5, j_iload6, j_aload6, j_istore6, j_astore6, j_iinc6, j_iload7, j_aload7, j_istore7, j_astore7, j_iinc7, j_iload8, j_aload8, j_istore8, j_astore8, j_iinc8, j_iadd, j_isub, j_imul, j_iand, j_ior, j_ixor, j_ishl, j_ishr, j_iushr, j_idiv, j_irem, j_ineg, j_ladd, j_lmul, j_land, j_lor, j_lcmp, j_lushr, j_lshl, j_i2l, j_l2i, j_dupI, j_dupR, j_popI, j_dup2, j_ifeq, j_iceq, j_ifne, j_icne, j_iflt, j_iclt, j_ifge, j_icge, j_ifgt, j_icgt, j_ifle, j_icle, j_goto, j_tsw, j_sw0, j_sw1, j_ireturn, j_zreturn, j_lreturn, j_return, j_getfield, j_putI, j_putJ, j_putR, j_iaload, j_baload, j_iastore, j_bastore, j_aaload, j_q, j_aastore, j_acopy, j_mmin, j_mmax, j_mabs, j_objinit, j_new, j_newI, j_newQ, j_sld, j_slen, j_callV0, j_callI0, j_callS0, j_callV1, j_callI1, j_callS1, j_callV2, j_callI2, j_callS2, j_callV3, j_callS3, j_callV4, j_callS4, j_callV5, j_callS5, j_pushS, j_pushN, j_sh0, j_sh1, j_sh2, j_sh3, j_sh4, Int32.reduceAdd, Int32.reduceMul, Int32.reduceSub, Int32.reduceLT, Int32.reduceLE, eq_self, i32_10, i32_01, ne_eq, hrow_s, hrow_n, ne10, ne100, ne1000, ne7, ne4, ne14, ne9973, or_true, true_or, or_false, false_or, not_true_eq_false, not_false_eq_true, false_implies, implies_true, and_true, forall_const, true_implies, jargs_n, jargs_r, jargs_i, List.cons_append, List.nil_append, true_and, Nat.reduceEqDiff, reduceIte, ft_X7_isCar_0, ft_X7_isCar_1, ft_X7_isCar_2, ft_X7_isCar_3, ft_X7_isCar_6, ft_X7_isCar_7, ft_X7_isCar_8, ft_X7_isCar_11, fl_71_4, s.mK, s_X7_in, e, zb_01]
def F_X7_kindOf_0 : Nat → jT := fun pc => (bif Nat.blt pc 9 then (bif Nat.blt pc 2 then (bif Nat.blt pc 1 then (bif Nat.beq pc 0 then J_iload 1 1 else jbad) else (bif Nat.beq pc 1 then J_aload 0 2 else jbad)) else (bif Nat.blt pc 5 then (bif Nat.beq pc 2 then J_getfield 7 23 5 else jbad) else (bif Nat.blt pc 8 then (bif Nat.beq pc 5 then J_icne 12 8 else jbad) else (bif Nat.beq pc 8 then J_iconst 1 9 else jbad)))) else (bif Nat.blt pc 16 then (bif Nat.blt pc 12 then (bif Nat.beq pc 9 then J_goto 18 else jbad) else (bif Nat.blt pc 13 then (bif Nat.beq pc 12 then J_aload 0 13 else jbad) else (bif Nat.beq pc 13 then J_getfield 7 8 16 else jbad))) else (bif Nat.blt pc 17 then (bif Nat.beq pc 16 then J_iload 1 17 else jbad) else (bif Nat.blt pc 18 then (bif Nat.beq pc 17 then J_iaload 18 else jbad) else (bif Nat.beq pc 18 then J_ireturn 0 0 else jbad)))))
theorem ftl_X7_kindOf_0 : F_X7_kindOf_0 0 = J_iload 1 1 := rfl
theorem ftl_X7_kindOf_1 : F_X7_kindOf_0 1 = J_aload 0 2 := rfl
theorem ftl_X7_kindOf_2 : F_X7_kindOf_0 2 = J_getfield 7 23 5 := rfl
theorem ftl_X7_kindOf_5 : F_X7_kindOf_0 5 = J_icne 12 8 := rfl
theorem ftl_X7_kindOf_8 : F_X7_kindOf_0 8 = J_iconst 1 9 := rfl
theorem ftl_X7_kindOf_9 : F_X7_kindOf_0 9 = J_goto 18 := rfl
theorem ftl_X7_kindOf_12 : F_X7_kindOf_0 12 = J_aload 0 13 := rfl
theorem ftl_X7_kindOf_13 : F_X7_kindOf_0 13 = J_getfield 7 8 16 := rfl
theorem ftl_X7_kindOf_16 : F_X7_kindOf_0 16 = J_iload 1 17 := rfl
theorem ftl_X7_kindOf_17 : F_X7_kindOf_0 17 = J_iaload 18 := rfl
theorem ftl_X7_kindOf_18 : F_X7_kindOf_0 18 = J_ireturn 0 0 := rfl
theorem F_X7_kindOf_0_ok : jOK Y_X7_kindOf none (F_X7_kindOf_0) := (jOK_node (jOK_node (jOK_node (jOK_leaf (sn_iload_n dX7_kindOf_0 rfl rfl)) (jOK_leaf (sn_aload_n dX7_kindOf_1 rfl rfl))) (jOK_node (jOK_leaf (sn_getfield dX7_kindOf_2 rfl rfl (by decide) tw_637 jin7)) (jOK_node (jOK_leaf (sn_icne dX7_kindOf_5 rfl rfl)) (jOK_leaf (sn_iconst dX7_kindOf_8 rfl rfl))))) (jOK_node (jOK_node (jOK_leaf (sn_goto dX7_kindOf_9 rfl)) (jOK_node (jOK_leaf (sn_aload_n dX7_kindOf_12 rfl rfl)) (jOK_leaf (sn_getfield dX7_kindOf_13 rfl rfl (by decide) tw_622 jin7)))) (jOK_node (jOK_leaf (sn_iload_n dX7_kindOf_16 rfl rfl)) (jOK_node (jOK_leaf (sn_iaload dX7_kindOf_17 rfl)) (jOK_leaf (sn_ireturn dX7_kindOf_18 rfl rfl))))))
def F_X7_kindOf : Nat → jT := F_X7_kindOf_0
theorem OK_X7_kindOf : jOK Y_X7_kindOf none (F_X7_kindOf) := F_X7_kindOf_0_ok
theorem ft_X7_kindOf_0 : F_X7_kindOf 0 = J_iload 1 1 := ftl_X7_kindOf_0
theorem ft_X7_kindOf_1 : F_X7_kindOf 1 = J_aload 0 2 := ftl_X7_kindOf_1
theorem ft_X7_kindOf_2 : F_X7_kindOf 2 = J_getfield 7 23 5 := ftl_X7_kindOf_2
theorem ft_X7_kindOf_5 : F_X7_kindOf 5 = J_icne 12 8 := ftl_X7_kindOf_5
theorem ft_X7_kindOf_8 : F_X7_kindOf 8 = J_iconst 1 9 := ftl_X7_kindOf_8
theorem ft_X7_kindOf_9 : F_X7_kindOf 9 = J_goto 18 := ftl_X7_kindOf_9
theorem ft_X7_kindOf_12 : F_X7_kindOf 12 = J_aload 0 13 := ftl_X7_kindOf_12
theorem ft_X7_kindOf_13 : F_X7_kindOf 13 = J_getfield 7 8 16 := ftl_X7_kindOf_13
theorem ft_X7_kindOf_16 : F_X7_kindOf 16 = J_iload 1 17 := ftl_X7_kindOf_16
theorem ft_X7_kindOf_17 : F_X7_kindOf 17 = J_iaload 18 := ftl_X7_kindOf_17
theorem ft_X7_kindOf_18 : F_X7_kindOf 18 = J_ireturn 0 0 := ftl_X7_kindOf_18
def S_X7_kindOf : jSp := fun nb vs mem Q => jcs vs ≤ 2 ∧ jrun F_X7_kindOf [] 40 Q (fun _ _ _ _ _ => False) 0 (jargs vs ++ []) [] mem (nb, 0, 0)
theorem ok_X7_kindOf : jMeets Y_X7_kindOf S_X7_kindOf := fun _ _ _ _ h => Ok.inl OK_X7_kindOf 40 [] pn7 rfl h
theorem s_X7_kindOf {nb c : Nat} {C : Nat → Nat → Int32} {z : Nat → Int64} {Q : jQ} (hc : c < 6) : S_X7_kindOf nb [.ref 71, .int (nI c)] (memS 94 C z) Q = Q (some (.int (pick (nI c = C 71 23) 1 (C 77 c)))) (memS 94 C z) := by
  refine (eq_le rfl).trans ?_
  have v1 : vp_in (nI c) 6 := vp_in_nI hc (by decide)
  simp -implicitDefEqProofs only [jr_0, jr_1, jr_2, j_iconst, j_lconst, j_iload0, j_aload0, j_istore0, j_astore0, j_iinc0, j_iload1, j_aload1, j_istore1, j_astore1, j_iinc1, j_iload2, j_aload2, j_istore2, j_astore2, j_iinc2, j_iload3, j_aload3, j_istore3, j_astore3, j_iinc3, j_iload4, j_aload4, j_istore4, j_astore4, j_iinc4, j_iload5, j_aload5, j_istore5, j_astore5, j_iinc5, j_iload6, j_aload6, j_istore6, j_astore6, j_iinc6, j_iload7, j_aload7, j_istore7, j_astore7, j_iinc7, j_iload8, j_aload8, j_istore8, j_astore8, j_iinc8, j_iadd, j_isub, j_imul, j_iand, j_ior, j_ixor, j_ishl, j_ishr, j_iushr, j_idiv, j_irem, j_ineg, j_ladd, j_lmul, j_land, j_lor, j_lcmp, j_lushr, j_lshl, j_i2l, j_l2i, j_dupI, j_dupR, j_popI, j_dup2, j_ifeq, j_iceq, j_ifne, j_icne, j_iflt, j_iclt, j_ifge, j_icge, j_ifgt, j_icgt, j_ifle, j_icle, j_goto, j_tsw, j_sw0, j_sw1, j_ireturn, j_zreturn, j_lreturn, j_return, j_getfield, j_putI, j_putJ, j_putR, j_iaload, j_baload, j_iastore, j_bastore, j_aaload, j_q, j_aastore, j_acopy, j_mmin, j_mmax, j_mabs, j_objinit, j_new, j_newI, j_newQ, j_sld, j_slen, j_callV0, j_callI0, j_callS0, j_callV1, j_callI1, j_callS1, j_callV2, j_callI2, j_callS2, j_callV3, j_callS3, j_callV4, j_callS4, j_callV5, j_callS5, j_pushS, j_pushN, j_sh0, j_sh1, j_sh2, j_sh3, j_sh4, Int32.reduceAdd, Int32.reduceMul, Int32.reduceSub, Int32.reduceLT, Int32.reduceLE, eq_self, i32_10, i32_01, ne_eq, hrow_s, hrow_n, ne10, ne100, ne1000, ne7, ne4, ne14, ne9973, or_true, true_or, or_false, false_or, not_true_eq_false, not_false_eq_true, false_implies, implies_true, and_true, forall_const, true_implies, jargs_n, jargs_r, jargs_i, List.cons_append, List.nil_append, true_and, Nat.reduceEqDiff, reduceIte, ft_X7_kindOf_0, ft_X7_kindOf_1, ft_X7_kindOf_2, ft_X7_kindOf_5, ft_X7_kindOf_8, ft_X7_kindOf_9, ft_X7_kindOf_12, ft_X7_kindOf_13, ft_X7_kindOf_16, ft_X7_kindOf_17, ft_X7_kindOf_18, fl_71_23, fl_71_8, al_77, v1, nI_clamp (show c < 2 ^ 31 by omega)]
  by_cases h : nI c = C 71 23
  · rw [pick_t h]; simp only [h, not_true_eq_false, not_false_eq_true, true_implies, false_implies, implies_true, and_true, true_and, forall_const]
  · rw [pick_f h]; simp only [h, not_true_eq_false, not_false_eq_true, true_implies, false_implies, implies_true, and_true, true_and, forall_const]
/-- the kind of an occupied post's car, on both sides -/
theorem kd_eq {C : Nat → Nat → Int32} {P K c j : Nat} {l : Int32} {ρ : Nat → Int32} (s : SR C P K) (hl : Li l (C 71 23)) (hj : j < 4) (hc : c < 6) (e : ρ j = nI c) : pick (nI c = C 71 23) 1 (C 77 c) = kdF (C 5) ρ (nI j) l := by
  rw [kdF_at hj, e, trf_3 hc, s.kd hc, hl c hc]
def F_X7_isMuteAt_0 : Nat → jT := fun pc => (bif Nat.blt pc 6 then (bif Nat.blt pc 3 then (bif Nat.blt pc 1 then (bif Nat.beq pc 0 then J_aload 0 1 else jbad) else (bif Nat.blt pc 2 then (bif Nat.beq pc 1 then J_aload 1 2 else jbad) else (bif Nat.beq pc 2 then J_iconst 0 3 else jbad))) else (bif Nat.blt pc 4 then (bif Nat.beq pc 3 then J_iload 2 4 else jbad) else (bif Nat.blt pc 5 then (bif Nat.beq pc 4 then J_iadd 5 else jbad) else (bif Nat.beq pc 5 then J_iaload 6 else jbad)))) else (bif Nat.blt pc 13 then (bif Nat.blt pc 9 then (bif Nat.beq pc 6 then J_callV 7 S_X7_kindOf 1 9 else jbad) else (bif Nat.blt pc 10 then (bif Nat.beq pc 9 then J_iconst 2 10 else jbad) else (bif Nat.beq pc 10 then J_icne 17 13 else jbad))) else (bif Nat.blt pc 17 then (bif Nat.blt pc 14 then (bif Nat.beq pc 13 then J_iconst 1 14 else jbad) else (bif Nat.beq pc 14 then J_goto 18 else jbad)) else (bif Nat.blt pc 18 then (bif Nat.beq pc 17 then J_iconst 0 18 else jbad) else (bif Nat.beq pc 18 then J_zreturn 0 0 else jbad)))))
theorem ftl_X7_isMuteAt_0 : F_X7_isMuteAt_0 0 = J_aload 0 1 := rfl
theorem ftl_X7_isMuteAt_1 : F_X7_isMuteAt_0 1 = J_aload 1 2 := rfl
theorem ftl_X7_isMuteAt_2 : F_X7_isMuteAt_0 2 = J_iconst 0 3 := rfl
theorem ftl_X7_isMuteAt_3 : F_X7_isMuteAt_0 3 = J_iload 2 4 := rfl
theorem ftl_X7_isMuteAt_4 : F_X7_isMuteAt_0 4 = J_iadd 5 := rfl
theorem ftl_X7_isMuteAt_5 : F_X7_isMuteAt_0 5 = J_iaload 6 := rfl
theorem ftl_X7_isMuteAt_6 : F_X7_isMuteAt_0 6 = J_callV 7 S_X7_kindOf 1 9 := rfl
theorem ftl_X7_isMuteAt_9 : F_X7_isMuteAt_0 9 = J_iconst 2 10 := rfl
theorem ftl_X7_isMuteAt_10 : F_X7_isMuteAt_0 10 = J_icne 17 13 := rfl
theorem ftl_X7_isMuteAt_13 : F_X7_isMuteAt_0 13 = J_iconst 1 14 := rfl
theorem ftl_X7_isMuteAt_14 : F_X7_isMuteAt_0 14 = J_goto 18 := rfl
theorem ftl_X7_isMuteAt_17 : F_X7_isMuteAt_0 17 = J_iconst 0 18 := rfl
theorem ftl_X7_isMuteAt_18 : F_X7_isMuteAt_0 18 = J_zreturn 0 0 := rfl
theorem F_X7_isMuteAt_0_ok : jOK Y_X7_isMuteAt none (F_X7_isMuteAt_0) := (jOK_node (jOK_node (jOK_node (jOK_leaf (sn_aload_n dX7_isMuteAt_0 rfl rfl)) (jOK_node (jOK_leaf (sn_aload_n dX7_isMuteAt_1 rfl rfl)) (jOK_leaf (sn_iconst dX7_isMuteAt_2 rfl rfl)))) (jOK_node (jOK_leaf (sn_iload_n dX7_isMuteAt_3 rfl rfl)) (jOK_node (jOK_leaf (sn_iadd dX7_isMuteAt_4 rfl)) (jOK_leaf (sn_iaload dX7_isMuteAt_5 rfl))))) (jOK_node (jOK_node (jOK_leaf (sn_callV (Y' := Y_X7_kindOf) ok_X7_kindOf dX7_isMuteAt_6 rfl rfl rfl tw_845 tw_847 tp_43 tw_8 jc_X7_kindOf rfl ⟨by decide, by decide, rfl⟩ ⟨by decide, by decide⟩)) (jOK_node (jOK_leaf (sn_iconst dX7_isMuteAt_9 rfl rfl)) (jOK_leaf (sn_icne dX7_isMuteAt_10 rfl rfl)))) (jOK_node (jOK_node (jOK_leaf (sn_iconst dX7_isMuteAt_13 rfl rfl)) (jOK_leaf (sn_goto dX7_isMuteAt_14 rfl))) (jOK_node (jOK_leaf (sn_iconst dX7_isMuteAt_17 rfl rfl)) (jOK_leaf (sn_zreturn dX7_isMuteAt_18 rfl rfl))))))
def F_X7_isMuteAt : Nat → jT := F_X7_isMuteAt_0
theorem OK_X7_isMuteAt : jOK Y_X7_isMuteAt none (F_X7_isMuteAt) := F_X7_isMuteAt_0_ok
theorem ft_X7_isMuteAt_0 : F_X7_isMuteAt 0 = J_aload 0 1 := ftl_X7_isMuteAt_0
theorem ft_X7_isMuteAt_1 : F_X7_isMuteAt 1 = J_aload 1 2 := ftl_X7_isMuteAt_1
theorem ft_X7_isMuteAt_2 : F_X7_isMuteAt 2 = J_iconst 0 3 := ftl_X7_isMuteAt_2
theorem ft_X7_isMuteAt_3 : F_X7_isMuteAt 3 = J_iload 2 4 := ftl_X7_isMuteAt_3
theorem ft_X7_isMuteAt_4 : F_X7_isMuteAt 4 = J_iadd 5 := ftl_X7_isMuteAt_4
theorem ft_X7_isMuteAt_5 : F_X7_isMuteAt 5 = J_iaload 6 := ftl_X7_isMuteAt_5
theorem ft_X7_isMuteAt_6 : F_X7_isMuteAt 6 = J_callV 7 S_X7_kindOf 1 9 := ftl_X7_isMuteAt_6
theorem ft_X7_isMuteAt_9 : F_X7_isMuteAt 9 = J_iconst 2 10 := ftl_X7_isMuteAt_9
theorem ft_X7_isMuteAt_10 : F_X7_isMuteAt 10 = J_icne 17 13 := ftl_X7_isMuteAt_10
theorem ft_X7_isMuteAt_13 : F_X7_isMuteAt 13 = J_iconst 1 14 := ftl_X7_isMuteAt_13
theorem ft_X7_isMuteAt_14 : F_X7_isMuteAt 14 = J_goto 18 := ftl_X7_isMuteAt_14
theorem ft_X7_isMuteAt_17 : F_X7_isMuteAt 17 = J_iconst 0 18 := ftl_X7_isMuteAt_17
theorem ft_X7_isMuteAt_18 : F_X7_isMuteAt 18 = J_zreturn 0 0 := ftl_X7_isMuteAt_18
def S_X7_isMuteAt : jSp := fun nb vs mem Q => jcs vs ≤ 3 ∧ jrun F_X7_isMuteAt [] 40 Q (fun _ _ _ _ _ => False) 0 (jargs vs ++ []) [] mem (nb, 0, 0)
theorem ok_X7_isMuteAt : jMeets Y_X7_isMuteAt S_X7_isMuteAt := fun _ _ _ _ h => Ok.inl OK_X7_isMuteAt 40 [] pn7 rfl h
theorem s_X7_isMuteAt {nb r j c P K : Nat} {C : Nat → Nat → Int32} {z : Nat → Int64} {l : Int32} {Q : jQ} (h : jMr r) (s : SR C P K) (hl : Li l (C 71 23)) (hj : j < 4) (hc : c < 6) (e : C r j = nI c) : S_X7_isMuteAt nb [.ref 71, .ref r, .int (nI j)] (memS 94 C z) Q = Q (some (.int (zb (kdF (C 5) (C r) (nI j) l = 2)))) (memS 94 C z) := by
  refine (eq_le rfl).trans ?_
  simp -implicitDefEqProofs only [jr_0, jr_1, jr_2, j_iconst, j_lconst, j_iload0, j_aload0, j_istore0, j_astore0, j_iinc0, j_iload1, j_aload1, j_istore1, j_astore1, j_iinc1, j_iload2, j_aload2, j_istore2, j_astore2, j_iinc2, j_iload3, j_aload3, j_istore3, j_astore3, j_iinc3, j_iload4, j_aload4, j_istore4, j_astore4, j_iinc4, j_iload5, j_aload5, j_istore5, j_astore5, j_iinc5, j_iload6, j_aload6, j_istore6, j_astore6, j_iinc6, j_iload7, j_aload7, j_istore7, j_astore7, j_iinc7, j_iload8, j_aload8, j_istore8, j_astore8, j_iinc8, j_iadd, j_isub, j_imul, j_iand, j_ior, j_ixor, j_ishl, j_ishr, j_iushr, j_idiv, j_irem, j_ineg, j_ladd, j_lmul, j_land, j_lor, j_lcmp, j_lushr, j_lshl, j_i2l, j_l2i, j_dupI, j_dupR, j_popI, j_dup2, j_ifeq, j_iceq, j_ifne, j_icne, j_iflt, j_iclt, j_ifge, j_icge, j_ifgt, j_icgt, j_ifle, j_icle, j_goto, j_tsw, j_sw0, j_sw1, j_ireturn, j_zreturn, j_lreturn, j_return, j_getfield, j_putI, j_putJ, j_putR, j_iaload, j_baload, j_iastore, j_bastore, j_aaload, j_q, j_aastore, j_acopy, j_mmin, j_mmax, j_mabs, j_objinit, j_new, j_newI, j_newQ, j_sld, j_slen, j_callV0, j_callI0, j_callS0, j_callV1, j_callI1, j_callS1, j_callV2, j_callI2, j_callS2, j_callV3, j_callS3, j_callV4, j_callS4, j_callV5, j_callS5, j_pushS, j_pushN, j_sh0, j_sh1, j_sh2, j_sh3, j_sh4, Int32.reduceAdd, Int32.reduceMul, Int32.reduceSub, Int32.reduceLT, Int32.reduceLE, eq_self, i32_10, i32_01, ne_eq, hrow_s, hrow_n, ne10, ne100, ne1000, ne7, ne4, ne14, ne9973, or_true, true_or, or_false, false_or, not_true_eq_false, not_false_eq_true, false_implies, implies_true, and_true, forall_const, true_implies, jargs_n, jargs_r, jargs_i, List.cons_append, List.nil_append, true_and, Nat.reduceEqDiff, reduceIte, ft_X7_isMuteAt_0, ft_X7_isMuteAt_1, ft_X7_isMuteAt_2, ft_X7_isMuteAt_3, ft_X7_isMuteAt_4, ft_X7_isMuteAt_5, ft_X7_isMuteAt_6, ft_X7_isMuteAt_9, ft_X7_isMuteAt_10, ft_X7_isMuteAt_13, ft_X7_isMuteAt_14, ft_X7_isMuteAt_17, ft_X7_isMuteAt_18, rc_71, ar_0 h hj, e, s_X7_kindOf hc, kd_eq s hl hj hc e]
  by_cases g : kdF (C 5) (C r) (nI j) l = 2
  · rw [zb_t g]; simp only [g, not_true_eq_false, not_false_eq_true, true_implies, false_implies, implies_true, and_true, true_and, forall_const]
  · rw [zb_f g]; simp only [g, not_true_eq_false, not_false_eq_true, true_implies, false_implies, implies_true, and_true, true_and, forall_const]
def lvP (ρ : Nat → Int32) (j : Nat) : Prop := 1 ≤ ρ (4 + j) ∧ ρ (4 + j) ≤ 3
def F_X7_isLive_0 : Nat → jT := fun pc => (bif Nat.blt pc 4 then (bif Nat.blt pc 2 then (bif Nat.blt pc 1 then (bif Nat.beq pc 0 then J_aload 0 1 else jbad) else (bif Nat.beq pc 1 then J_iconst 4 2 else jbad)) else (bif Nat.blt pc 3 then (bif Nat.beq pc 2 then J_iload 1 3 else jbad) else (bif Nat.beq pc 3 then J_iadd 4 else jbad))) else (bif Nat.blt pc 6 then (bif Nat.blt pc 5 then (bif Nat.beq pc 4 then J_iaload 5 else jbad) else (bif Nat.beq pc 5 then J_iconst 1 6 else jbad)) else (bif Nat.blt pc 7 then (bif Nat.beq pc 6 then J_iconst 3 7 else jbad) else (bif Nat.blt pc 10 then (bif Nat.beq pc 7 then J_callS S_X7_in 3 10 else jbad) else (bif Nat.beq pc 10 then J_zreturn 0 0 else jbad)))))
theorem ftl_X7_isLive_0 : F_X7_isLive_0 0 = J_aload 0 1 := rfl
theorem ftl_X7_isLive_1 : F_X7_isLive_0 1 = J_iconst 4 2 := rfl
theorem ftl_X7_isLive_2 : F_X7_isLive_0 2 = J_iload 1 3 := rfl
theorem ftl_X7_isLive_3 : F_X7_isLive_0 3 = J_iadd 4 := rfl
theorem ftl_X7_isLive_4 : F_X7_isLive_0 4 = J_iaload 5 := rfl
theorem ftl_X7_isLive_5 : F_X7_isLive_0 5 = J_iconst 1 6 := rfl
theorem ftl_X7_isLive_6 : F_X7_isLive_0 6 = J_iconst 3 7 := rfl
theorem ftl_X7_isLive_7 : F_X7_isLive_0 7 = J_callS S_X7_in 3 10 := rfl
theorem ftl_X7_isLive_10 : F_X7_isLive_0 10 = J_zreturn 0 0 := rfl
theorem F_X7_isLive_0_ok : jOK Y_X7_isLive none (F_X7_isLive_0) := (jOK_node (jOK_node (jOK_node (jOK_leaf (sn_aload_n dX7_isLive_0 rfl rfl)) (jOK_leaf (sn_iconst dX7_isLive_1 rfl rfl))) (jOK_node (jOK_leaf (sn_iload_n dX7_isLive_2 rfl rfl)) (jOK_leaf (sn_iadd dX7_isLive_3 rfl)))) (jOK_node (jOK_node (jOK_leaf (sn_iaload dX7_isLive_4 rfl)) (jOK_leaf (sn_iconst dX7_isLive_5 rfl rfl))) (jOK_node (jOK_leaf (sn_iconst dX7_isLive_6 rfl rfl)) (jOK_node (jOK_leaf (sn_callS (Y' := Y_X7_in) ok_X7_in dX7_isLive_7 rfl rfl tw_737 tw_738 tw_8 jc_X7_in ⟨by decide, by decide, rfl⟩ ⟨by decide, by decide⟩)) (jOK_leaf (sn_zreturn dX7_isLive_10 rfl rfl))))))
def F_X7_isLive : Nat → jT := F_X7_isLive_0
theorem OK_X7_isLive : jOK Y_X7_isLive none (F_X7_isLive) := F_X7_isLive_0_ok
theorem ft_X7_isLive_0 : F_X7_isLive 0 = J_aload 0 1 := ftl_X7_isLive_0
theorem ft_X7_isLive_1 : F_X7_isLive 1 = J_iconst 4 2 := ftl_X7_isLive_1
theorem ft_X7_isLive_2 : F_X7_isLive 2 = J_iload 1 3 := ftl_X7_isLive_2
theorem ft_X7_isLive_3 : F_X7_isLive 3 = J_iadd 4 := ftl_X7_isLive_3
theorem ft_X7_isLive_4 : F_X7_isLive 4 = J_iaload 5 := ftl_X7_isLive_4
theorem ft_X7_isLive_5 : F_X7_isLive 5 = J_iconst 1 6 := ftl_X7_isLive_5
theorem ft_X7_isLive_6 : F_X7_isLive 6 = J_iconst 3 7 := ftl_X7_isLive_6
theorem ft_X7_isLive_7 : F_X7_isLive 7 = J_callS S_X7_in 3 10 := ftl_X7_isLive_7
theorem ft_X7_isLive_10 : F_X7_isLive 10 = J_zreturn 0 0 := ftl_X7_isLive_10
def S_X7_isLive : jSp := fun nb vs mem Q => jcs vs ≤ 2 ∧ jrun F_X7_isLive [] 40 Q (fun _ _ _ _ _ => False) 0 (jargs vs ++ []) [] mem (nb, 0, 0)
theorem ok_X7_isLive : jMeets Y_X7_isLive S_X7_isLive := fun _ _ _ _ h => Ok.inl OK_X7_isLive 40 [] pn7 rfl h
theorem s_X7_isLive {nb r j : Nat} {C : Nat → Nat → Int32} {z : Nat → Int64} {Q : jQ} (h : jMr r) (hj : j < 4) : S_X7_isLive nb [.ref r, .int (nI j)] (memS 94 C z) Q = Q (some (.int (zb (lvP (C r) j)))) (memS 94 C z) := by
  refine (eq_le rfl).trans ?_
  simp -implicitDefEqProofs only [jr_0, jr_1, jr_2, j_iconst, j_lconst, j_iload0, j_aload0, j_istore0, j_astore0, j_iinc0, j_iload1, j_aload1, j_istore1, j_astore1, j_iinc1, j_iload2, j_aload2, j_istore2, j_astore2, j_iinc2, j_iload3, j_aload3, j_istore3, j_astore3, j_iinc3, j_iload4, j_aload4, j_istore4, j_astore4, j_iinc4, j_iload5, j_aload5, j_istore5, j_astore5, j_iinc5, j_iload6, j_aload6, j_istore6, j_astore6, j_iinc6, j_iload7, j_aload7, j_istore7, j_astore7, j_iinc7, j_iload8, j_aload8, j_istore8, j_astore8, j_iinc8, j_iadd, j_isub, j_imul, j_iand, j_ior, j_ixor, j_ishl, j_ishr, j_iushr, j_idiv, j_irem, j_ineg, j_ladd, j_lmul, j_land, j_lor, j_lcmp, j_lushr, j_lshl, j_i2l, j_l2i, j_dupI, j_dupR, j_popI, j_dup2, j_ifeq, j_iceq, j_ifne, j_icne, j_iflt, j_iclt, j_ifge, j_icge, j_ifgt, j_icgt, j_ifle, j_icle, j_goto, j_tsw, j_sw0, j_sw1, j_ireturn, j_zreturn, j_lreturn, j_return, j_getfield, j_putI, j_putJ, j_putR, j_iaload, j_baload, j_iastore, j_bastore, j_aaload, j_q, j_aastore, j_acopy, j_mmin, j_mmax, j_mabs, j_objinit, j_new, j_newI, j_newQ, j_sld, j_slen, j_callV0, j_callI0, j_callS0, j_callV1, j_callI1, j_callS1, j_callV2, j_callI2, j_callS2, j_callV3, j_callS3, j_callV4, j_callS4, j_callV5, j_callS5, j_pushS, j_pushN, j_sh0, j_sh1, j_sh2, j_sh3, j_sh4, Int32.reduceAdd, Int32.reduceMul, Int32.reduceSub, Int32.reduceLT, Int32.reduceLE, eq_self, i32_10, i32_01, ne_eq, hrow_s, hrow_n, ne10, ne100, ne1000, ne7, ne4, ne14, ne9973, or_true, true_or, or_false, false_or, not_true_eq_false, not_false_eq_true, false_implies, implies_true, and_true, forall_const, true_implies, jargs_n, jargs_r, jargs_i, List.cons_append, List.nil_append, true_and, Nat.reduceEqDiff, reduceIte, ft_X7_isLive_0, ft_X7_isLive_1, ft_X7_isLive_2, ft_X7_isLive_3, ft_X7_isLive_4, ft_X7_isLive_5, ft_X7_isLive_6, ft_X7_isLive_7, ft_X7_isLive_10, ar_4 h hj, s_X7_in, zb_01]
  rfl
theorem lvP_eq {P K B j : Nat} {ρ : Nat → Int32} (h : Inv P K B ρ) (hj : j < 4) : lvP ρ j = liveP ρ (nI j) := by
  rw [liveP_at hj]
  unfold lvP
  rcases h.pi hj with q | ⟨-, -, q | q | q | q⟩
  · rw [q.2]; exact propext ⟨fun q => absurd q.1 (by decide), fun q => absurd q (by decide)⟩
  · rw [q]; exact propext ⟨fun _ => by decide, fun _ => by decide⟩
  · rw [q]; exact propext ⟨fun _ => by decide, fun _ => by decide⟩
  · rw [q]; exact propext ⟨fun _ => by decide, fun _ => by decide⟩
  · rw [q]; exact propext ⟨fun q => absurd q.2 (by decide), fun q => absurd q (by decide)⟩
theorem rstartF_at {ρ : Nat → Int32} {j : Nat} {x : Int32} (hj : j < 4) : rstartF ρ (nI j) x = upd (upd (upd (upd (upd ρ (4 + j) x) (8 + j) 0) (12 + j) 0) (16 + j) 0) (20 + j) 0 := by
  unfold rstartF
  rw [rsj_2 hj, rsj_3 hj, rsj_4 hj, rsj_5 hj, rsj_6 hj]
def F_X7_clearAt_0 : Nat → jT := fun pc => (bif Nat.blt pc 7 then (bif Nat.blt pc 3 then (bif Nat.blt pc 1 then (bif Nat.beq pc 0 then J_aload 1 1 else jbad) else (bif Nat.blt pc 2 then (bif Nat.beq pc 1 then J_iconst 4 2 else jbad) else (bif Nat.beq pc 2 then J_iload 2 3 else jbad))) else (bif Nat.blt pc 5 then (bif Nat.blt pc 4 then (bif Nat.beq pc 3 then J_iadd 4 else jbad) else (bif Nat.beq pc 4 then J_iload 3 5 else jbad)) else (bif Nat.blt pc 6 then (bif Nat.beq pc 5 then J_iastore 6 else jbad) else (bif Nat.beq pc 6 then J_aload 1 7 else jbad)))) else (bif Nat.blt pc 12 then (bif Nat.blt pc 10 then (bif Nat.blt pc 9 then (bif Nat.beq pc 7 then J_iconst 8 9 else jbad) else (bif Nat.beq pc 9 then J_iload 2 10 else jbad)) else (bif Nat.blt pc 11 then (bif Nat.beq pc 10 then J_iadd 11 else jbad) else (bif Nat.beq pc 11 then J_iconst 0 12 else jbad))) else (bif Nat.blt pc 14 then (bif Nat.blt pc 13 then (bif Nat.beq pc 12 then J_iastore 13 else jbad) else (bif Nat.beq pc 13 then J_aload 1 14 else jbad)) else (bif Nat.blt pc 16 then (bif Nat.beq pc 14 then J_iconst 12 16 else jbad) else (bif Nat.beq pc 16 then J_iload 2 17 else jbad)))))
theorem ftl_X7_clearAt_0 : F_X7_clearAt_0 0 = J_aload 1 1 := rfl
theorem ftl_X7_clearAt_1 : F_X7_clearAt_0 1 = J_iconst 4 2 := rfl
theorem ftl_X7_clearAt_2 : F_X7_clearAt_0 2 = J_iload 2 3 := rfl
theorem ftl_X7_clearAt_3 : F_X7_clearAt_0 3 = J_iadd 4 := rfl
theorem ftl_X7_clearAt_4 : F_X7_clearAt_0 4 = J_iload 3 5 := rfl
theorem ftl_X7_clearAt_5 : F_X7_clearAt_0 5 = J_iastore 6 := rfl
theorem ftl_X7_clearAt_6 : F_X7_clearAt_0 6 = J_aload 1 7 := rfl
theorem ftl_X7_clearAt_7 : F_X7_clearAt_0 7 = J_iconst 8 9 := rfl
theorem ftl_X7_clearAt_9 : F_X7_clearAt_0 9 = J_iload 2 10 := rfl
theorem ftl_X7_clearAt_10 : F_X7_clearAt_0 10 = J_iadd 11 := rfl
theorem ftl_X7_clearAt_11 : F_X7_clearAt_0 11 = J_iconst 0 12 := rfl
theorem ftl_X7_clearAt_12 : F_X7_clearAt_0 12 = J_iastore 13 := rfl
theorem ftl_X7_clearAt_13 : F_X7_clearAt_0 13 = J_aload 1 14 := rfl
theorem ftl_X7_clearAt_14 : F_X7_clearAt_0 14 = J_iconst 12 16 := rfl
theorem ftl_X7_clearAt_16 : F_X7_clearAt_0 16 = J_iload 2 17 := rfl
theorem F_X7_clearAt_0_ok : jOK Y_X7_clearAt none (F_X7_clearAt_0) := (jOK_node (jOK_node (jOK_node (jOK_leaf (sn_aload_n dX7_clearAt_0 rfl rfl)) (jOK_node (jOK_leaf (sn_iconst dX7_clearAt_1 rfl rfl)) (jOK_leaf (sn_iload_n dX7_clearAt_2 rfl rfl)))) (jOK_node (jOK_node (jOK_leaf (sn_iadd dX7_clearAt_3 rfl)) (jOK_leaf (sn_iload_n dX7_clearAt_4 rfl rfl))) (jOK_node (jOK_leaf (sn_iastore dX7_clearAt_5 rfl)) (jOK_leaf (sn_aload_n dX7_clearAt_6 rfl rfl))))) (jOK_node (jOK_node (jOK_node (jOK_leaf (sn_bipush dX7_clearAt_7 rfl rfl)) (jOK_leaf (sn_iload_n dX7_clearAt_9 rfl rfl))) (jOK_node (jOK_leaf (sn_iadd dX7_clearAt_10 rfl)) (jOK_leaf (sn_iconst dX7_clearAt_11 rfl rfl)))) (jOK_node (jOK_node (jOK_leaf (sn_iastore dX7_clearAt_12 rfl)) (jOK_leaf (sn_aload_n dX7_clearAt_13 rfl rfl))) (jOK_node (jOK_leaf (sn_bipush dX7_clearAt_14 rfl rfl)) (jOK_leaf (sn_iload_n dX7_clearAt_16 rfl rfl))))))
def F_X7_clearAt_17 : Nat → jT := fun pc => (bif Nat.blt pc 26 then (bif Nat.blt pc 21 then (bif Nat.blt pc 19 then (bif Nat.blt pc 18 then (bif Nat.beq pc 17 then J_iadd 18 else jbad) else (bif Nat.beq pc 18 then J_iconst 0 19 else jbad)) else (bif Nat.blt pc 20 then (bif Nat.beq pc 19 then J_iastore 20 else jbad) else (bif Nat.beq pc 20 then J_aload 1 21 else jbad))) else (bif Nat.blt pc 24 then (bif Nat.blt pc 23 then (bif Nat.beq pc 21 then J_iconst 16 23 else jbad) else (bif Nat.beq pc 23 then J_iload 2 24 else jbad)) else (bif Nat.blt pc 25 then (bif Nat.beq pc 24 then J_iadd 25 else jbad) else (bif Nat.beq pc 25 then J_iconst 0 26 else jbad)))) else (bif Nat.blt pc 31 then (bif Nat.blt pc 28 then (bif Nat.blt pc 27 then (bif Nat.beq pc 26 then J_iastore 27 else jbad) else (bif Nat.beq pc 27 then J_aload 1 28 else jbad)) else (bif Nat.blt pc 30 then (bif Nat.beq pc 28 then J_iconst 20 30 else jbad) else (bif Nat.beq pc 30 then J_iload 2 31 else jbad))) else (bif Nat.blt pc 33 then (bif Nat.blt pc 32 then (bif Nat.beq pc 31 then J_iadd 32 else jbad) else (bif Nat.beq pc 32 then J_iconst 0 33 else jbad)) else (bif Nat.blt pc 34 then (bif Nat.beq pc 33 then J_iastore 34 else jbad) else (bif Nat.beq pc 34 then J_return 0 0 else jbad)))))
theorem ftl_X7_clearAt_17 : F_X7_clearAt_17 17 = J_iadd 18 := rfl
theorem ftl_X7_clearAt_18 : F_X7_clearAt_17 18 = J_iconst 0 19 := rfl
theorem ftl_X7_clearAt_19 : F_X7_clearAt_17 19 = J_iastore 20 := rfl
theorem ftl_X7_clearAt_20 : F_X7_clearAt_17 20 = J_aload 1 21 := rfl
theorem ftl_X7_clearAt_21 : F_X7_clearAt_17 21 = J_iconst 16 23 := rfl
theorem ftl_X7_clearAt_23 : F_X7_clearAt_17 23 = J_iload 2 24 := rfl
theorem ftl_X7_clearAt_24 : F_X7_clearAt_17 24 = J_iadd 25 := rfl
theorem ftl_X7_clearAt_25 : F_X7_clearAt_17 25 = J_iconst 0 26 := rfl
theorem ftl_X7_clearAt_26 : F_X7_clearAt_17 26 = J_iastore 27 := rfl
theorem ftl_X7_clearAt_27 : F_X7_clearAt_17 27 = J_aload 1 28 := rfl
theorem ftl_X7_clearAt_28 : F_X7_clearAt_17 28 = J_iconst 20 30 := rfl
theorem ftl_X7_clearAt_30 : F_X7_clearAt_17 30 = J_iload 2 31 := rfl
theorem ftl_X7_clearAt_31 : F_X7_clearAt_17 31 = J_iadd 32 := rfl
theorem ftl_X7_clearAt_32 : F_X7_clearAt_17 32 = J_iconst 0 33 := rfl
theorem ftl_X7_clearAt_33 : F_X7_clearAt_17 33 = J_iastore 34 := rfl
theorem ftl_X7_clearAt_34 : F_X7_clearAt_17 34 = J_return 0 0 := rfl
theorem F_X7_clearAt_17_ok : jOK Y_X7_clearAt none (F_X7_clearAt_17) := (jOK_node (jOK_node (jOK_node (jOK_node (jOK_leaf (sn_iadd dX7_clearAt_17 rfl)) (jOK_leaf (sn_iconst dX7_clearAt_18 rfl rfl))) (jOK_node (jOK_leaf (sn_iastore dX7_clearAt_19 rfl)) (jOK_leaf (sn_aload_n dX7_clearAt_20 rfl rfl)))) (jOK_node (jOK_node (jOK_leaf (sn_bipush dX7_clearAt_21 rfl rfl)) (jOK_leaf (sn_iload_n dX7_clearAt_23 rfl rfl))) (jOK_node (jOK_leaf (sn_iadd dX7_clearAt_24 rfl)) (jOK_leaf (sn_iconst dX7_clearAt_25 rfl rfl))))) (jOK_node (jOK_node (jOK_node (jOK_leaf (sn_iastore dX7_clearAt_26 rfl)) (jOK_leaf (sn_aload_n dX7_clearAt_27 rfl rfl))) (jOK_node (jOK_leaf (sn_bipush dX7_clearAt_28 rfl rfl)) (jOK_leaf (sn_iload_n dX7_clearAt_30 rfl rfl)))) (jOK_node (jOK_node (jOK_leaf (sn_iadd dX7_clearAt_31 rfl)) (jOK_leaf (sn_iconst dX7_clearAt_32 rfl rfl))) (jOK_node (jOK_leaf (sn_iastore dX7_clearAt_33 rfl)) (jOK_leaf (sn_return dX7_clearAt_34 rfl rfl))))))
def F_X7_clearAt_0_34 : Nat → jT := fun pc => bif Nat.blt pc 17 then F_X7_clearAt_0 pc else F_X7_clearAt_17 pc
theorem F_X7_clearAt_0_34_l {pc : Nat} (h : Nat.blt pc 17 = true) : F_X7_clearAt_0_34 pc = F_X7_clearAt_0 pc := by unfold F_X7_clearAt_0_34; rw [h]; rfl
theorem F_X7_clearAt_0_34_r {pc : Nat} (h : Nat.blt pc 17 = false) : F_X7_clearAt_0_34 pc = F_X7_clearAt_17 pc := by unfold F_X7_clearAt_0_34; rw [h]; rfl
theorem F_X7_clearAt_0_34_ok : jOK Y_X7_clearAt none (F_X7_clearAt_0_34) := jOK_node (F_X7_clearAt_0_ok) (F_X7_clearAt_17_ok)
def F_X7_clearAt : Nat → jT := F_X7_clearAt_0_34
theorem OK_X7_clearAt : jOK Y_X7_clearAt none (F_X7_clearAt) := F_X7_clearAt_0_34_ok
theorem ft_X7_clearAt_0 : F_X7_clearAt 0 = J_aload 1 1 := (F_X7_clearAt_0_34_l rfl).trans (ftl_X7_clearAt_0)
theorem ft_X7_clearAt_1 : F_X7_clearAt 1 = J_iconst 4 2 := (F_X7_clearAt_0_34_l rfl).trans (ftl_X7_clearAt_1)
theorem ft_X7_clearAt_2 : F_X7_clearAt 2 = J_iload 2 3 := (F_X7_clearAt_0_34_l rfl).trans (ftl_X7_clearAt_2)
theorem ft_X7_clearAt_3 : F_X7_clearAt 3 = J_iadd 4 := (F_X7_clearAt_0_34_l rfl).trans (ftl_X7_clearAt_3)
theorem ft_X7_clearAt_4 : F_X7_clearAt 4 = J_iload 3 5 := (F_X7_clearAt_0_34_l rfl).trans (ftl_X7_clearAt_4)
theorem ft_X7_clearAt_5 : F_X7_clearAt 5 = J_iastore 6 := (F_X7_clearAt_0_34_l rfl).trans (ftl_X7_clearAt_5)
theorem ft_X7_clearAt_6 : F_X7_clearAt 6 = J_aload 1 7 := (F_X7_clearAt_0_34_l rfl).trans (ftl_X7_clearAt_6)
theorem ft_X7_clearAt_7 : F_X7_clearAt 7 = J_iconst 8 9 := (F_X7_clearAt_0_34_l rfl).trans (ftl_X7_clearAt_7)
theorem ft_X7_clearAt_9 : F_X7_clearAt 9 = J_iload 2 10 := (F_X7_clearAt_0_34_l rfl).trans (ftl_X7_clearAt_9)
theorem ft_X7_clearAt_10 : F_X7_clearAt 10 = J_iadd 11 := (F_X7_clearAt_0_34_l rfl).trans (ftl_X7_clearAt_10)
theorem ft_X7_clearAt_11 : F_X7_clearAt 11 = J_iconst 0 12 := (F_X7_clearAt_0_34_l rfl).trans (ftl_X7_clearAt_11)
theorem ft_X7_clearAt_12 : F_X7_clearAt 12 = J_iastore 13 := (F_X7_clearAt_0_34_l rfl).trans (ftl_X7_clearAt_12)
theorem ft_X7_clearAt_13 : F_X7_clearAt 13 = J_aload 1 14 := (F_X7_clearAt_0_34_l rfl).trans (ftl_X7_clearAt_13)
theorem ft_X7_clearAt_14 : F_X7_clearAt 14 = J_iconst 12 16 := (F_X7_clearAt_0_34_l rfl).trans (ftl_X7_clearAt_14)
theorem ft_X7_clearAt_16 : F_X7_clearAt 16 = J_iload 2 17 := (F_X7_clearAt_0_34_l rfl).trans (ftl_X7_clearAt_16)
theorem ft_X7_clearAt_17 : F_X7_clearAt 17 = J_iadd 18 := (F_X7_clearAt_0_34_r rfl).trans (ftl_X7_clearAt_17)
theorem ft_X7_clearAt_18 : F_X7_clearAt 18 = J_iconst 0 19 := (F_X7_clearAt_0_34_r rfl).trans (ftl_X7_clearAt_18)
theorem ft_X7_clearAt_19 : F_X7_clearAt 19 = J_iastore 20 := (F_X7_clearAt_0_34_r rfl).trans (ftl_X7_clearAt_19)
theorem ft_X7_clearAt_20 : F_X7_clearAt 20 = J_aload 1 21 := (F_X7_clearAt_0_34_r rfl).trans (ftl_X7_clearAt_20)
theorem ft_X7_clearAt_21 : F_X7_clearAt 21 = J_iconst 16 23 := (F_X7_clearAt_0_34_r rfl).trans (ftl_X7_clearAt_21)
theorem ft_X7_clearAt_23 : F_X7_clearAt 23 = J_iload 2 24 := (F_X7_clearAt_0_34_r rfl).trans (ftl_X7_clearAt_23)
theorem ft_X7_clearAt_24 : F_X7_clearAt 24 = J_iadd 25 := (F_X7_clearAt_0_34_r rfl).trans (ftl_X7_clearAt_24)
theorem ft_X7_clearAt_25 : F_X7_clearAt 25 = J_iconst 0 26 := (F_X7_clearAt_0_34_r rfl).trans (ftl_X7_clearAt_25)
theorem ft_X7_clearAt_26 : F_X7_clearAt 26 = J_iastore 27 := (F_X7_clearAt_0_34_r rfl).trans (ftl_X7_clearAt_26)
theorem ft_X7_clearAt_27 : F_X7_clearAt 27 = J_aload 1 28 := (F_X7_clearAt_0_34_r rfl).trans (ftl_X7_clearAt_27)
theorem ft_X7_clearAt_28 : F_X7_clearAt 28 = J_iconst 20 30 := (F_X7_clearAt_0_34_r rfl).trans (ftl_X7_clearAt_28)
theorem ft_X7_clearAt_30 : F_X7_clearAt 30 = J_iload 2 31 := (F_X7_clearAt_0_34_r rfl).trans (ftl_X7_clearAt_30)
theorem ft_X7_clearAt_31 : F_X7_clearAt 31 = J_iadd 32 := (F_X7_clearAt_0_34_r rfl).trans (ftl_X7_clearAt_31)
theorem ft_X7_clearAt_32 : F_X7_clearAt 32 = J_iconst 0 33 := (F_X7_clearAt_0_34_r rfl).trans (ftl_X7_clearAt_32)
theorem ft_X7_clearAt_33 : F_X7_clearAt 33 = J_iastore 34 := (F_X7_clearAt_0_34_r rfl).trans (ftl_X7_clearAt_33)
theorem ft_X7_clearAt_34 : F_X7_clearAt 34 = J_return 0 0 := (F_X7_clearAt_0_34_r rfl).trans (ftl_X7_clearAt_34)
def S_X7_clearAt : jSp := fun nb vs mem Q => jcs vs ≤ 4 ∧ jrun F_X7_clearAt [] 60 Q (fun _ _ _ _ _ => False) 0 (jargs vs ++ []) [] mem (nb, 0, 0)
theorem ok_X7_clearAt : jMeets Y_X7_clearAt S_X7_clearAt := fun _ _ _ _ h => Ok.inl OK_X7_clearAt 60 [] pn7 rfl h
theorem s_X7_clearAt {nb r j : Nat} {C : Nat → Nat → Int32} {z : Nat → Int64} {x : Int32} {Q : jQ} (h : jMr r) (hj : j < 4) : S_X7_clearAt nb [.ref 71, .ref r, .int (nI j), .int x] (memS 94 C z) Q = Q none (memS 94 (hrow C r (rstartF (C r) (nI j) x)) z) := by
  refine (eq_le rfl).trans ?_
  simp -implicitDefEqProofs only [jr_0, jr_1, jr_2, j_iconst, j_lconst, j_iload0, j_aload0, j_istore0, j_astore0, j_iinc0, j_iload1, j_aload1, j_istore1, j_astore1, j_iinc1, j_iload2, j_aload2, j_istore2, j_astore2, j_iinc2, j_iload3, j_aload3, j_istore3, j_astore3, j_iinc3, j_iload4, j_aload4, j_istore4, j_astore4, j_iinc4, j_iload5, j_aload5, j_istore5, j_astore5, j_iinc5, j_iload6, j_aload6, j_istore6, j_astore6, j_iinc6, j_iload7, j_aload7, j_istore7, j_astore7, j_iinc7, j_iload8, j_aload8, j_istore8, j_astore8, j_iinc8, j_iadd, j_isub, j_imul, j_iand, j_ior, j_ixor, j_ishl, j_ishr, j_iushr, j_idiv, j_irem, j_ineg, j_ladd, j_lmul, j_land, j_lor, j_lcmp, j_lushr, j_lshl, j_i2l, j_l2i, j_dupI, j_dupR, j_popI, j_dup2, j_ifeq, j_iceq, j_ifne, j_icne, j_iflt, j_iclt, j_ifge, j_icge, j_ifgt, j_icgt, j_ifle, j_icle, j_goto, j_tsw, j_sw0, j_sw1, j_ireturn, j_zreturn, j_lreturn, j_return, j_getfield, j_putI, j_putJ, j_putR, j_iaload, j_baload, j_iastore, j_bastore, j_aaload, j_q, j_aastore, j_acopy, j_mmin, j_mmax, j_mabs, j_objinit, j_new, j_newI, j_newQ, j_sld, j_slen, j_callV0, j_callI0, j_callS0, j_callV1, j_callI1, j_callS1, j_callV2, j_callI2, j_callS2, j_callV3, j_callS3, j_callV4, j_callS4, j_callV5, j_callS5, j_pushS, j_pushN, j_sh0, j_sh1, j_sh2, j_sh3, j_sh4, Int32.reduceAdd, Int32.reduceMul, Int32.reduceSub, Int32.reduceLT, Int32.reduceLE, eq_self, i32_10, i32_01, ne_eq, hrow_s, hrow_n, ne10, ne100, ne1000, ne7, ne4, ne14, ne9973, or_true, true_or, or_false, false_or, not_true_eq_false, not_false_eq_true, false_implies, implies_true, and_true, forall_const, true_implies, jargs_n, jargs_r, jargs_i, List.cons_append, List.nil_append, true_and, Nat.reduceEqDiff, reduceIte, ft_X7_clearAt_0, ft_X7_clearAt_1, ft_X7_clearAt_2, ft_X7_clearAt_3, ft_X7_clearAt_4, ft_X7_clearAt_5, ft_X7_clearAt_6, ft_X7_clearAt_7, ft_X7_clearAt_9, ft_X7_clearAt_10, ft_X7_clearAt_11, ft_X7_clearAt_12, ft_X7_clearAt_13, ft_X7_clearAt_14, ft_X7_clearAt_16, ft_X7_clearAt_17, ft_X7_clearAt_18, ft_X7_clearAt_19, ft_X7_clearAt_20, ft_X7_clearAt_21, ft_X7_clearAt_23, ft_X7_clearAt_24, ft_X7_clearAt_25, ft_X7_clearAt_26, ft_X7_clearAt_27, ft_X7_clearAt_28, ft_X7_clearAt_30, ft_X7_clearAt_31, ft_X7_clearAt_32, ft_X7_clearAt_33, ft_X7_clearAt_34, aw_4 h hj, aw_8 h hj, aw_12 h hj, aw_16 h hj, aw_20 h hj, hrow_hrow]
  rw [rstartF_at hj]
