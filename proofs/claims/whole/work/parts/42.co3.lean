/-! undo -/
def S_X7_undo : jSp := fun _ vs mem Q => ∃ C z nx ct, vs = [.ref 71] ∧ mem = memS 94 C z ∧ (C 71 14 = nI nx ∧ nx < 14) ∧ (C 71 13 = nI ct ∧ ct ≤ 14) ∧ Cut (C 78) ∧ (ct = 0 → Q (some (.int (-3))) (memS 94 C z)) ∧ (¬ ct = 0 → ∀ ρ, Cut ρ → (∀ k, k < 40 → ρ k = C 80 (40 * prv nx + k)) → Q (some (.int (nI (ct - 1)))) (memS 94 (hrow (hrow C 71 (upd (upd (C 71) 13 (nI (ct - 1))) 14 (nI (prv nx)))) 78 ρ) z))
def F_X7_undo_0 : Nat → jT := fun pc => (bif Nat.blt pc 10 then (bif Nat.blt pc 4 then (bif Nat.blt pc 1 then (bif Nat.beq pc 0 then J_aload 0 1 else jbad) else (bif Nat.beq pc 1 then J_getfield 7 13 4 else jbad)) else (bif Nat.blt pc 7 then (bif Nat.beq pc 4 then J_ifne 10 7 else jbad) else (bif Nat.blt pc 9 then (bif Nat.beq pc 7 then J_iconst (-3) 9 else jbad) else (bif Nat.beq pc 9 then J_ireturn 0 0 else jbad)))) else (bif Nat.blt pc 15 then (bif Nat.blt pc 11 then (bif Nat.beq pc 10 then J_aload 0 11 else jbad) else (bif Nat.blt pc 12 then (bif Nat.beq pc 11 then J_dup 12 else jbad) else (bif Nat.beq pc 12 then J_getfield 7 13 15 else jbad))) else (bif Nat.blt pc 16 then (bif Nat.beq pc 15 then J_iconst 1 16 else jbad) else (bif Nat.blt pc 17 then (bif Nat.beq pc 16 then J_isub 17 else jbad) else (bif Nat.beq pc 17 then J_putI 7 13 20 else jbad)))))
theorem ftl_X7_undo_0 : F_X7_undo_0 0 = J_aload 0 1 := rfl
theorem ftl_X7_undo_1 : F_X7_undo_0 1 = J_getfield 7 13 4 := rfl
theorem ftl_X7_undo_4 : F_X7_undo_0 4 = J_ifne 10 7 := rfl
theorem ftl_X7_undo_7 : F_X7_undo_0 7 = J_iconst (-3) 9 := rfl
theorem ftl_X7_undo_9 : F_X7_undo_0 9 = J_ireturn 0 0 := rfl
theorem ftl_X7_undo_10 : F_X7_undo_0 10 = J_aload 0 11 := rfl
theorem ftl_X7_undo_11 : F_X7_undo_0 11 = J_dup 12 := rfl
theorem ftl_X7_undo_12 : F_X7_undo_0 12 = J_getfield 7 13 15 := rfl
theorem ftl_X7_undo_15 : F_X7_undo_0 15 = J_iconst 1 16 := rfl
theorem ftl_X7_undo_16 : F_X7_undo_0 16 = J_isub 17 := rfl
theorem ftl_X7_undo_17 : F_X7_undo_0 17 = J_putI 7 13 20 := rfl
theorem F_X7_undo_0_ok : jOK Y_X7_undo none (F_X7_undo_0) := (jOK_node (jOK_node (jOK_node (jOK_leaf (sn_aload_n dX7_undo_0 rfl rfl)) (jOK_leaf (sn_getfield dX7_undo_1 rfl rfl (by decide) tw_627 jin7))) (jOK_node (jOK_leaf (sn_ifne dX7_undo_4 rfl rfl)) (jOK_node (jOK_leaf (sn_bipush dX7_undo_7 rfl rfl)) (jOK_leaf (sn_ireturn dX7_undo_9 rfl rfl))))) (jOK_node (jOK_node (jOK_leaf (sn_aload_n dX7_undo_10 rfl rfl)) (jOK_node (jOK_leaf (sn_dup dX7_undo_11 rfl)) (jOK_leaf (sn_getfield dX7_undo_12 rfl rfl (by decide) tw_627 jin7)))) (jOK_node (jOK_leaf (sn_iconst dX7_undo_15 rfl rfl)) (jOK_node (jOK_leaf (sn_isub dX7_undo_16 rfl)) (jOK_leaf (sn_putI tyX7 dX7_undo_17 rfl rfl (by decide) tw_627 jin7 tyX7_ok nmX7 rfl rfl))))))
def F_X7_undo_20 : Nat → jT := fun pc => (bif Nat.blt pc 28 then (bif Nat.blt pc 22 then (bif Nat.blt pc 21 then (bif Nat.beq pc 20 then J_aload 0 21 else jbad) else (bif Nat.beq pc 21 then J_aload 0 22 else jbad)) else (bif Nat.blt pc 25 then (bif Nat.beq pc 22 then J_getfield 7 14 25 else jbad) else (bif Nat.blt pc 27 then (bif Nat.beq pc 25 then J_iconst 14 27 else jbad) else (bif Nat.beq pc 27 then J_iadd 28 else jbad)))) else (bif Nat.blt pc 32 then (bif Nat.blt pc 29 then (bif Nat.beq pc 28 then J_iconst 1 29 else jbad) else (bif Nat.blt pc 30 then (bif Nat.beq pc 29 then J_isub 30 else jbad) else (bif Nat.beq pc 30 then J_iconst 14 32 else jbad))) else (bif Nat.blt pc 33 then (bif Nat.beq pc 32 then J_irem 33 else jbad) else (bif Nat.blt pc 36 then (bif Nat.beq pc 33 then J_putI 7 14 36 else jbad) else (bif Nat.beq pc 36 then J_iconst 0 37 else jbad)))))
theorem ftl_X7_undo_20 : F_X7_undo_20 20 = J_aload 0 21 := rfl
theorem ftl_X7_undo_21 : F_X7_undo_20 21 = J_aload 0 22 := rfl
theorem ftl_X7_undo_22 : F_X7_undo_20 22 = J_getfield 7 14 25 := rfl
theorem ftl_X7_undo_25 : F_X7_undo_20 25 = J_iconst 14 27 := rfl
theorem ftl_X7_undo_27 : F_X7_undo_20 27 = J_iadd 28 := rfl
theorem ftl_X7_undo_28 : F_X7_undo_20 28 = J_iconst 1 29 := rfl
theorem ftl_X7_undo_29 : F_X7_undo_20 29 = J_isub 30 := rfl
theorem ftl_X7_undo_30 : F_X7_undo_20 30 = J_iconst 14 32 := rfl
theorem ftl_X7_undo_32 : F_X7_undo_20 32 = J_irem 33 := rfl
theorem ftl_X7_undo_33 : F_X7_undo_20 33 = J_putI 7 14 36 := rfl
theorem ftl_X7_undo_36 : F_X7_undo_20 36 = J_iconst 0 37 := rfl
theorem F_X7_undo_20_ok : jOK Y_X7_undo none (F_X7_undo_20) := (jOK_node (jOK_node (jOK_node (jOK_leaf (sn_aload_n dX7_undo_20 rfl rfl)) (jOK_leaf (sn_aload_n dX7_undo_21 rfl rfl))) (jOK_node (jOK_leaf (sn_getfield dX7_undo_22 rfl rfl (by decide) tw_628 jin7)) (jOK_node (jOK_leaf (sn_bipush dX7_undo_25 rfl rfl)) (jOK_leaf (sn_iadd dX7_undo_27 rfl))))) (jOK_node (jOK_node (jOK_leaf (sn_iconst dX7_undo_28 rfl rfl)) (jOK_node (jOK_leaf (sn_isub dX7_undo_29 rfl)) (jOK_leaf (sn_bipush dX7_undo_30 rfl rfl)))) (jOK_node (jOK_leaf (sn_irem dX7_undo_32 rfl)) (jOK_node (jOK_leaf (sn_putI tyX7 dX7_undo_33 rfl rfl (by decide) tw_628 jin7 tyX7_ok nmX7 rfl rfl)) (jOK_leaf (sn_iconst dX7_undo_36 rfl rfl))))))
def F_X7_undo_0_36 : Nat → jT := fun pc => bif Nat.blt pc 20 then F_X7_undo_0 pc else F_X7_undo_20 pc
theorem F_X7_undo_0_36_l {pc : Nat} (h : Nat.blt pc 20 = true) : F_X7_undo_0_36 pc = F_X7_undo_0 pc := by unfold F_X7_undo_0_36; rw [h]; rfl
theorem F_X7_undo_0_36_r {pc : Nat} (h : Nat.blt pc 20 = false) : F_X7_undo_0_36 pc = F_X7_undo_20 pc := by unfold F_X7_undo_0_36; rw [h]; rfl
theorem F_X7_undo_0_36_ok : jOK Y_X7_undo none (F_X7_undo_0_36) := jOK_node (F_X7_undo_0_ok) (F_X7_undo_20_ok)
def F_X7_undo_37 : Nat → jT := fun pc => (bif Nat.blt pc 45 then (bif Nat.blt pc 39 then (bif Nat.blt pc 38 then (bif Nat.beq pc 37 then J_istore 1 38 else jbad) else (bif Nat.beq pc 38 then J_iload 1 39 else jbad)) else (bif Nat.blt pc 41 then (bif Nat.beq pc 39 then J_iconst 40 41 else jbad) else (bif Nat.blt pc 44 then (bif Nat.beq pc 41 then J_icge 70 44 else jbad) else (bif Nat.beq pc 44 then J_aload 0 45 else jbad)))) else (bif Nat.blt pc 50 then (bif Nat.blt pc 48 then (bif Nat.beq pc 45 then J_getfield 7 10 48 else jbad) else (bif Nat.blt pc 49 then (bif Nat.beq pc 48 then J_iload 1 49 else jbad) else (bif Nat.beq pc 49 then J_aload 0 50 else jbad))) else (bif Nat.blt pc 53 then (bif Nat.beq pc 50 then J_getfield 7 12 53 else jbad) else (bif Nat.blt pc 55 then (bif Nat.beq pc 53 then J_iconst 40 55 else jbad) else (bif Nat.beq pc 55 then J_aload 0 56 else jbad)))))
theorem ftl_X7_undo_37 : F_X7_undo_37 37 = J_istore 1 38 := rfl
theorem ftl_X7_undo_38 : F_X7_undo_37 38 = J_iload 1 39 := rfl
theorem ftl_X7_undo_39 : F_X7_undo_37 39 = J_iconst 40 41 := rfl
theorem ftl_X7_undo_41 : F_X7_undo_37 41 = J_icge 70 44 := rfl
theorem ftl_X7_undo_44 : F_X7_undo_37 44 = J_aload 0 45 := rfl
theorem ftl_X7_undo_45 : F_X7_undo_37 45 = J_getfield 7 10 48 := rfl
theorem ftl_X7_undo_48 : F_X7_undo_37 48 = J_iload 1 49 := rfl
theorem ftl_X7_undo_49 : F_X7_undo_37 49 = J_aload 0 50 := rfl
theorem ftl_X7_undo_50 : F_X7_undo_37 50 = J_getfield 7 12 53 := rfl
theorem ftl_X7_undo_53 : F_X7_undo_37 53 = J_iconst 40 55 := rfl
theorem ftl_X7_undo_55 : F_X7_undo_37 55 = J_aload 0 56 := rfl
theorem F_X7_undo_37_ok : jOK Y_X7_undo none (F_X7_undo_37) := (jOK_node (jOK_node (jOK_node (jOK_leaf (sn_istore_n dX7_undo_37 rfl rfl (by decide))) (jOK_leaf (sn_iload_n dX7_undo_38 rfl rfl))) (jOK_node (jOK_leaf (sn_bipush dX7_undo_39 rfl rfl)) (jOK_node (jOK_leaf (sn_icge dX7_undo_41 rfl rfl)) (jOK_leaf (sn_aload_n dX7_undo_44 rfl rfl))))) (jOK_node (jOK_node (jOK_leaf (sn_getfield dX7_undo_45 rfl rfl (by decide) tw_624 jin7)) (jOK_node (jOK_leaf (sn_iload_n dX7_undo_48 rfl rfl)) (jOK_leaf (sn_aload_n dX7_undo_49 rfl rfl)))) (jOK_node (jOK_leaf (sn_getfield dX7_undo_50 rfl rfl (by decide) tw_626 jin7)) (jOK_node (jOK_leaf (sn_bipush dX7_undo_53 rfl rfl)) (jOK_leaf (sn_aload_n dX7_undo_55 rfl rfl))))))
def F_X7_undo_56 : Nat → jT := fun pc => (bif Nat.blt pc 63 then (bif Nat.blt pc 60 then (bif Nat.blt pc 59 then (bif Nat.beq pc 56 then J_getfield 7 14 59 else jbad) else (bif Nat.beq pc 59 then J_imul 60 else jbad)) else (bif Nat.blt pc 61 then (bif Nat.beq pc 60 then J_iload 1 61 else jbad) else (bif Nat.blt pc 62 then (bif Nat.beq pc 61 then J_iadd 62 else jbad) else (bif Nat.beq pc 62 then J_iaload 63 else jbad)))) else (bif Nat.blt pc 70 then (bif Nat.blt pc 64 then (bif Nat.beq pc 63 then J_iastore 64 else jbad) else (bif Nat.blt pc 67 then (bif Nat.beq pc 64 then J_iinc 1 1 67 else jbad) else (bif Nat.beq pc 67 then J_goto 38 else jbad))) else (bif Nat.blt pc 71 then (bif Nat.beq pc 70 then J_aload 0 71 else jbad) else (bif Nat.blt pc 74 then (bif Nat.beq pc 71 then J_getfield 7 13 74 else jbad) else (bif Nat.beq pc 74 then J_ireturn 0 0 else jbad)))))
theorem ftl_X7_undo_56 : F_X7_undo_56 56 = J_getfield 7 14 59 := rfl
theorem ftl_X7_undo_59 : F_X7_undo_56 59 = J_imul 60 := rfl
theorem ftl_X7_undo_60 : F_X7_undo_56 60 = J_iload 1 61 := rfl
theorem ftl_X7_undo_61 : F_X7_undo_56 61 = J_iadd 62 := rfl
theorem ftl_X7_undo_62 : F_X7_undo_56 62 = J_iaload 63 := rfl
theorem ftl_X7_undo_63 : F_X7_undo_56 63 = J_iastore 64 := rfl
theorem ftl_X7_undo_64 : F_X7_undo_56 64 = J_iinc 1 1 67 := rfl
theorem ftl_X7_undo_67 : F_X7_undo_56 67 = J_goto 38 := rfl
theorem ftl_X7_undo_70 : F_X7_undo_56 70 = J_aload 0 71 := rfl
theorem ftl_X7_undo_71 : F_X7_undo_56 71 = J_getfield 7 13 74 := rfl
theorem ftl_X7_undo_74 : F_X7_undo_56 74 = J_ireturn 0 0 := rfl
theorem F_X7_undo_56_ok : jOK Y_X7_undo none (F_X7_undo_56) := (jOK_node (jOK_node (jOK_node (jOK_leaf (sn_getfield dX7_undo_56 rfl rfl (by decide) tw_628 jin7)) (jOK_leaf (sn_imul dX7_undo_59 rfl))) (jOK_node (jOK_leaf (sn_iload_n dX7_undo_60 rfl rfl)) (jOK_node (jOK_leaf (sn_iadd dX7_undo_61 rfl)) (jOK_leaf (sn_iaload dX7_undo_62 rfl))))) (jOK_node (jOK_node (jOK_leaf (sn_iastore dX7_undo_63 rfl)) (jOK_node (jOK_leaf (sn_iinc dX7_undo_64 rfl rfl (by decide))) (jOK_leaf (sn_goto dX7_undo_67 rfl)))) (jOK_node (jOK_leaf (sn_aload_n dX7_undo_70 rfl rfl)) (jOK_node (jOK_leaf (sn_getfield dX7_undo_71 rfl rfl (by decide) tw_627 jin7)) (jOK_leaf (sn_ireturn dX7_undo_74 rfl rfl))))))
def F_X7_undo_37_74 : Nat → jT := fun pc => bif Nat.blt pc 56 then F_X7_undo_37 pc else F_X7_undo_56 pc
theorem F_X7_undo_37_74_l {pc : Nat} (h : Nat.blt pc 56 = true) : F_X7_undo_37_74 pc = F_X7_undo_37 pc := by unfold F_X7_undo_37_74; rw [h]; rfl
theorem F_X7_undo_37_74_r {pc : Nat} (h : Nat.blt pc 56 = false) : F_X7_undo_37_74 pc = F_X7_undo_56 pc := by unfold F_X7_undo_37_74; rw [h]; rfl
theorem F_X7_undo_37_74_ok : jOK Y_X7_undo none (F_X7_undo_37_74) := jOK_node (F_X7_undo_37_ok) (F_X7_undo_56_ok)
def F_X7_undo_0_74 : Nat → jT := fun pc => bif Nat.blt pc 37 then F_X7_undo_0_36 pc else F_X7_undo_37_74 pc
theorem F_X7_undo_0_74_l {pc : Nat} (h : Nat.blt pc 37 = true) : F_X7_undo_0_74 pc = F_X7_undo_0_36 pc := by unfold F_X7_undo_0_74; rw [h]; rfl
theorem F_X7_undo_0_74_r {pc : Nat} (h : Nat.blt pc 37 = false) : F_X7_undo_0_74 pc = F_X7_undo_37_74 pc := by unfold F_X7_undo_0_74; rw [h]; rfl
theorem F_X7_undo_0_74_ok : jOK Y_X7_undo none (F_X7_undo_0_74) := jOK_node (F_X7_undo_0_36_ok) (F_X7_undo_37_74_ok)
def F_X7_undo : Nat → jT := F_X7_undo_0_74
theorem OK_X7_undo : jOK Y_X7_undo none (F_X7_undo) := F_X7_undo_0_74_ok
theorem ft_X7_undo_0 : F_X7_undo 0 = J_aload 0 1 := (F_X7_undo_0_74_l rfl).trans ((F_X7_undo_0_36_l rfl).trans (ftl_X7_undo_0))
theorem ft_X7_undo_1 : F_X7_undo 1 = J_getfield 7 13 4 := (F_X7_undo_0_74_l rfl).trans ((F_X7_undo_0_36_l rfl).trans (ftl_X7_undo_1))
theorem ft_X7_undo_4 : F_X7_undo 4 = J_ifne 10 7 := (F_X7_undo_0_74_l rfl).trans ((F_X7_undo_0_36_l rfl).trans (ftl_X7_undo_4))
theorem ft_X7_undo_7 : F_X7_undo 7 = J_iconst (-3) 9 := (F_X7_undo_0_74_l rfl).trans ((F_X7_undo_0_36_l rfl).trans (ftl_X7_undo_7))
theorem ft_X7_undo_9 : F_X7_undo 9 = J_ireturn 0 0 := (F_X7_undo_0_74_l rfl).trans ((F_X7_undo_0_36_l rfl).trans (ftl_X7_undo_9))
theorem ft_X7_undo_10 : F_X7_undo 10 = J_aload 0 11 := (F_X7_undo_0_74_l rfl).trans ((F_X7_undo_0_36_l rfl).trans (ftl_X7_undo_10))
theorem ft_X7_undo_11 : F_X7_undo 11 = J_dup 12 := (F_X7_undo_0_74_l rfl).trans ((F_X7_undo_0_36_l rfl).trans (ftl_X7_undo_11))
theorem ft_X7_undo_12 : F_X7_undo 12 = J_getfield 7 13 15 := (F_X7_undo_0_74_l rfl).trans ((F_X7_undo_0_36_l rfl).trans (ftl_X7_undo_12))
theorem ft_X7_undo_15 : F_X7_undo 15 = J_iconst 1 16 := (F_X7_undo_0_74_l rfl).trans ((F_X7_undo_0_36_l rfl).trans (ftl_X7_undo_15))
theorem ft_X7_undo_16 : F_X7_undo 16 = J_isub 17 := (F_X7_undo_0_74_l rfl).trans ((F_X7_undo_0_36_l rfl).trans (ftl_X7_undo_16))
theorem ft_X7_undo_17 : F_X7_undo 17 = J_putI 7 13 20 := (F_X7_undo_0_74_l rfl).trans ((F_X7_undo_0_36_l rfl).trans (ftl_X7_undo_17))
theorem ft_X7_undo_20 : F_X7_undo 20 = J_aload 0 21 := (F_X7_undo_0_74_l rfl).trans ((F_X7_undo_0_36_r rfl).trans (ftl_X7_undo_20))
theorem ft_X7_undo_21 : F_X7_undo 21 = J_aload 0 22 := (F_X7_undo_0_74_l rfl).trans ((F_X7_undo_0_36_r rfl).trans (ftl_X7_undo_21))
theorem ft_X7_undo_22 : F_X7_undo 22 = J_getfield 7 14 25 := (F_X7_undo_0_74_l rfl).trans ((F_X7_undo_0_36_r rfl).trans (ftl_X7_undo_22))
theorem ft_X7_undo_25 : F_X7_undo 25 = J_iconst 14 27 := (F_X7_undo_0_74_l rfl).trans ((F_X7_undo_0_36_r rfl).trans (ftl_X7_undo_25))
theorem ft_X7_undo_27 : F_X7_undo 27 = J_iadd 28 := (F_X7_undo_0_74_l rfl).trans ((F_X7_undo_0_36_r rfl).trans (ftl_X7_undo_27))
theorem ft_X7_undo_28 : F_X7_undo 28 = J_iconst 1 29 := (F_X7_undo_0_74_l rfl).trans ((F_X7_undo_0_36_r rfl).trans (ftl_X7_undo_28))
theorem ft_X7_undo_29 : F_X7_undo 29 = J_isub 30 := (F_X7_undo_0_74_l rfl).trans ((F_X7_undo_0_36_r rfl).trans (ftl_X7_undo_29))
theorem ft_X7_undo_30 : F_X7_undo 30 = J_iconst 14 32 := (F_X7_undo_0_74_l rfl).trans ((F_X7_undo_0_36_r rfl).trans (ftl_X7_undo_30))
theorem ft_X7_undo_32 : F_X7_undo 32 = J_irem 33 := (F_X7_undo_0_74_l rfl).trans ((F_X7_undo_0_36_r rfl).trans (ftl_X7_undo_32))
theorem ft_X7_undo_33 : F_X7_undo 33 = J_putI 7 14 36 := (F_X7_undo_0_74_l rfl).trans ((F_X7_undo_0_36_r rfl).trans (ftl_X7_undo_33))
theorem ft_X7_undo_36 : F_X7_undo 36 = J_iconst 0 37 := (F_X7_undo_0_74_l rfl).trans ((F_X7_undo_0_36_r rfl).trans (ftl_X7_undo_36))
theorem ft_X7_undo_37 : F_X7_undo 37 = J_istore 1 38 := (F_X7_undo_0_74_r rfl).trans ((F_X7_undo_37_74_l rfl).trans (ftl_X7_undo_37))
theorem ft_X7_undo_38 : F_X7_undo 38 = J_iload 1 39 := (F_X7_undo_0_74_r rfl).trans ((F_X7_undo_37_74_l rfl).trans (ftl_X7_undo_38))
theorem ft_X7_undo_39 : F_X7_undo 39 = J_iconst 40 41 := (F_X7_undo_0_74_r rfl).trans ((F_X7_undo_37_74_l rfl).trans (ftl_X7_undo_39))
theorem ft_X7_undo_41 : F_X7_undo 41 = J_icge 70 44 := (F_X7_undo_0_74_r rfl).trans ((F_X7_undo_37_74_l rfl).trans (ftl_X7_undo_41))
theorem ft_X7_undo_44 : F_X7_undo 44 = J_aload 0 45 := (F_X7_undo_0_74_r rfl).trans ((F_X7_undo_37_74_l rfl).trans (ftl_X7_undo_44))
theorem ft_X7_undo_45 : F_X7_undo 45 = J_getfield 7 10 48 := (F_X7_undo_0_74_r rfl).trans ((F_X7_undo_37_74_l rfl).trans (ftl_X7_undo_45))
theorem ft_X7_undo_48 : F_X7_undo 48 = J_iload 1 49 := (F_X7_undo_0_74_r rfl).trans ((F_X7_undo_37_74_l rfl).trans (ftl_X7_undo_48))
theorem ft_X7_undo_49 : F_X7_undo 49 = J_aload 0 50 := (F_X7_undo_0_74_r rfl).trans ((F_X7_undo_37_74_l rfl).trans (ftl_X7_undo_49))
theorem ft_X7_undo_50 : F_X7_undo 50 = J_getfield 7 12 53 := (F_X7_undo_0_74_r rfl).trans ((F_X7_undo_37_74_l rfl).trans (ftl_X7_undo_50))
theorem ft_X7_undo_53 : F_X7_undo 53 = J_iconst 40 55 := (F_X7_undo_0_74_r rfl).trans ((F_X7_undo_37_74_l rfl).trans (ftl_X7_undo_53))
theorem ft_X7_undo_55 : F_X7_undo 55 = J_aload 0 56 := (F_X7_undo_0_74_r rfl).trans ((F_X7_undo_37_74_l rfl).trans (ftl_X7_undo_55))
theorem ft_X7_undo_56 : F_X7_undo 56 = J_getfield 7 14 59 := (F_X7_undo_0_74_r rfl).trans ((F_X7_undo_37_74_r rfl).trans (ftl_X7_undo_56))
theorem ft_X7_undo_59 : F_X7_undo 59 = J_imul 60 := (F_X7_undo_0_74_r rfl).trans ((F_X7_undo_37_74_r rfl).trans (ftl_X7_undo_59))
theorem ft_X7_undo_60 : F_X7_undo 60 = J_iload 1 61 := (F_X7_undo_0_74_r rfl).trans ((F_X7_undo_37_74_r rfl).trans (ftl_X7_undo_60))
theorem ft_X7_undo_61 : F_X7_undo 61 = J_iadd 62 := (F_X7_undo_0_74_r rfl).trans ((F_X7_undo_37_74_r rfl).trans (ftl_X7_undo_61))
theorem ft_X7_undo_62 : F_X7_undo 62 = J_iaload 63 := (F_X7_undo_0_74_r rfl).trans ((F_X7_undo_37_74_r rfl).trans (ftl_X7_undo_62))
theorem ft_X7_undo_63 : F_X7_undo 63 = J_iastore 64 := (F_X7_undo_0_74_r rfl).trans ((F_X7_undo_37_74_r rfl).trans (ftl_X7_undo_63))
theorem ft_X7_undo_64 : F_X7_undo 64 = J_iinc 1 1 67 := (F_X7_undo_0_74_r rfl).trans ((F_X7_undo_37_74_r rfl).trans (ftl_X7_undo_64))
theorem ft_X7_undo_67 : F_X7_undo 67 = J_goto 38 := (F_X7_undo_0_74_r rfl).trans ((F_X7_undo_37_74_r rfl).trans (ftl_X7_undo_67))
theorem ft_X7_undo_70 : F_X7_undo 70 = J_aload 0 71 := (F_X7_undo_0_74_r rfl).trans ((F_X7_undo_37_74_r rfl).trans (ftl_X7_undo_70))
theorem ft_X7_undo_71 : F_X7_undo 71 = J_getfield 7 13 74 := (F_X7_undo_0_74_r rfl).trans ((F_X7_undo_37_74_r rfl).trans (ftl_X7_undo_71))
theorem ft_X7_undo_74 : F_X7_undo 74 = J_ireturn 0 0 := (F_X7_undo_0_74_r rfl).trans ((F_X7_undo_37_74_r rfl).trans (ftl_X7_undo_74))
theorem lp_X7_undo {Q : jQ} {C : Nat → Nat → Int32} {z : Nat → Int64} {nb b c : Nat} (hb : b < 14) (e14 : C 71 14 = nI b) (e13 : C 71 13 = nI c) (h : ∀ ρ, Cut ρ → (∀ k, k < 40 → ρ k = C 80 (40 * b + k)) → Q (some (.int (nI c))) (memS 94 (hrow C 78 ρ) z)) :
    ∀ k j, j + k = 40 → ∀ f : Nat → Int32, Cut f → (∀ i, i < j → f i = C 80 (40 * b + i)) → Rn Y_X7_undo none Q 38 [some (.ref 71), some (.int (nI j))] [] (memS 94 (hrow C 78 f) z) (nb, 0, 0) := by
  intro k
  induction k with
  | zero =>
    intro j hj f cf hf
    have hj : j = 40 := by omega
    subst hj
    have hq : (40 ≤ nI 40) = True := eq_true (by decide)
    refine jrun_first OK_X7_undo (C := [38]) 60 ?_
    simp -implicitDefEqProofs only [jr_0, jr_1, jr_2, j_iconst, j_lconst, j_iload0, j_aload0, j_istore0, j_astore0, j_iinc0, j_iload1, j_aload1, j_istore1, j_astore1, j_iinc1, j_iload2, j_aload2, j_istore2, j_astore2, j_iinc2, j_iload3, j_aload3, j_istore3, j_astore3, j_iinc3, j_iload4, j_aload4, j_istore4, j_astore4, j_iinc4, j_iload5, j_aload5, j_istore5, j_astore5, j_iinc5, j_iload6, j_aload6, j_istore6, j_astore6, j_iinc6, j_iload7, j_aload7, j_istore7, j_astore7, j_iinc7, j_iload8, j_aload8, j_istore8, j_astore8, j_iinc8, j_iadd, j_isub, j_imul, j_iand, j_ior, j_ixor, j_ishl, j_ishr, j_iushr, j_idiv, j_irem, j_ineg, j_ladd, j_lmul, j_land, j_lor, j_lcmp, j_lushr, j_lshl, j_i2l, j_l2i, j_dupI, j_dupR, j_popI, j_dup2, j_ifeq, j_iceq, j_ifne, j_icne, j_iflt, j_iclt, j_ifge, j_icge, j_ifgt, j_icgt, j_ifle, j_icle, j_goto, j_tsw, j_sw0, j_sw1, j_ireturn, j_zreturn, j_lreturn, j_return, j_getfield, j_putI, j_putJ, j_putR, j_iaload, j_baload, j_iastore, j_bastore, j_aaload, j_q, j_aastore, j_acopy, j_mmin, j_mmax, j_mabs, j_objinit, j_new, j_newI, j_newQ, j_sld, j_slen, j_callV0, j_callI0, j_callS0, j_callV1, j_callI1, j_callS1, j_callV2, j_callI2, j_callS2, j_callV3, j_callS3, j_callV4, j_callS4, j_callV5, j_callS5, j_pushS, j_pushN, j_sh0, j_sh1, j_sh2, j_sh3, j_sh4, Int32.reduceAdd, Int32.reduceMul, Int32.reduceSub, Int32.reduceLT, Int32.reduceLE, eq_self, i32_10, i32_01, ne_eq, hrow_s, hrow_n, ne10, ne100, ne1000, ne7, ne4, ne14, ne9973, or_true, true_or, or_false, false_or, not_true_eq_false, not_false_eq_true, false_implies, implies_true, and_true, forall_const, true_implies, jargs_n, jargs_r, jargs_i, List.cons_append, List.nil_append, true_and, Nat.reduceEqDiff, reduceIte, ft_X7_undo_0, ft_X7_undo_1, ft_X7_undo_4, ft_X7_undo_7, ft_X7_undo_9, ft_X7_undo_10, ft_X7_undo_11, ft_X7_undo_12, ft_X7_undo_15, ft_X7_undo_16, ft_X7_undo_17, ft_X7_undo_20, ft_X7_undo_21, ft_X7_undo_22, ft_X7_undo_25, ft_X7_undo_27, ft_X7_undo_28, ft_X7_undo_29, ft_X7_undo_30, ft_X7_undo_32, ft_X7_undo_33, ft_X7_undo_36, ft_X7_undo_37, ft_X7_undo_38, ft_X7_undo_39, ft_X7_undo_41, ft_X7_undo_44, ft_X7_undo_45, ft_X7_undo_48, ft_X7_undo_49, ft_X7_undo_50, ft_X7_undo_53, ft_X7_undo_55, ft_X7_undo_56, ft_X7_undo_59, ft_X7_undo_60, ft_X7_undo_61, ft_X7_undo_62, ft_X7_undo_63, ft_X7_undo_64, ft_X7_undo_67, ft_X7_undo_70, ft_X7_undo_71, ft_X7_undo_74, hq, fl_71_13, e13]
    exact h f cf hf
  | succ k ih =>
    intro j hj f cf hf
    have hq : (40 ≤ nI j) = False := eq_false (nI_ge (b := 40) (by omega) (by decide))
    have v1 : vp_in (nI j) 40 := vp_in_nI (by omega) (by decide)
    have e1 : 40 * nI b + nI j = nI (40 * b + j) := by rw [show (40 : Int32) = nI 40 from rfl, nI_mul (by omega) (by omega) (by omega), nI_add]
    have v2 : vp_in (nI (40 * b + j)) 560 := vp_in_nI (by omega) (by decide)
    refine jrun_first OK_X7_undo (C := [38]) 60 ?_
    simp -implicitDefEqProofs only [jr_0, jr_1, jr_2, j_iconst, j_lconst, j_iload0, j_aload0, j_istore0, j_astore0, j_iinc0, j_iload1, j_aload1, j_istore1, j_astore1, j_iinc1, j_iload2, j_aload2, j_istore2, j_astore2, j_iinc2, j_iload3, j_aload3, j_istore3, j_astore3, j_iinc3, j_iload4, j_aload4, j_istore4, j_astore4, j_iinc4, j_iload5, j_aload5, j_istore5, j_astore5, j_iinc5, j_iload6, j_aload6, j_istore6, j_astore6, j_iinc6, j_iload7, j_aload7, j_istore7, j_astore7, j_iinc7, j_iload8, j_aload8, j_istore8, j_astore8, j_iinc8, j_iadd, j_isub, j_imul, j_iand, j_ior, j_ixor, j_ishl, j_ishr, j_iushr, j_idiv, j_irem, j_ineg, j_ladd, j_lmul, j_land, j_lor, j_lcmp, j_lushr, j_lshl, j_i2l, j_l2i, j_dupI, j_dupR, j_popI, j_dup2, j_ifeq, j_iceq, j_ifne, j_icne, j_iflt, j_iclt, j_ifge, j_icge, j_ifgt, j_icgt, j_ifle, j_icle, j_goto, j_tsw, j_sw0, j_sw1, j_ireturn, j_zreturn, j_lreturn, j_return, j_getfield, j_putI, j_putJ, j_putR, j_iaload, j_baload, j_iastore, j_bastore, j_aaload, j_q, j_aastore, j_acopy, j_mmin, j_mmax, j_mabs, j_objinit, j_new, j_newI, j_newQ, j_sld, j_slen, j_callV0, j_callI0, j_callS0, j_callV1, j_callI1, j_callS1, j_callV2, j_callI2, j_callS2, j_callV3, j_callS3, j_callV4, j_callS4, j_callV5, j_callS5, j_pushS, j_pushN, j_sh0, j_sh1, j_sh2, j_sh3, j_sh4, Int32.reduceAdd, Int32.reduceMul, Int32.reduceSub, Int32.reduceLT, Int32.reduceLE, eq_self, i32_10, i32_01, ne_eq, hrow_s, hrow_n, ne10, ne100, ne1000, ne7, ne4, ne14, ne9973, or_true, true_or, or_false, false_or, not_true_eq_false, not_false_eq_true, false_implies, implies_true, and_true, forall_const, true_implies, jargs_n, jargs_r, jargs_i, List.cons_append, List.nil_append, true_and, Nat.reduceEqDiff, reduceIte, ft_X7_undo_0, ft_X7_undo_1, ft_X7_undo_4, ft_X7_undo_7, ft_X7_undo_9, ft_X7_undo_10, ft_X7_undo_11, ft_X7_undo_12, ft_X7_undo_15, ft_X7_undo_16, ft_X7_undo_17, ft_X7_undo_20, ft_X7_undo_21, ft_X7_undo_22, ft_X7_undo_25, ft_X7_undo_27, ft_X7_undo_28, ft_X7_undo_29, ft_X7_undo_30, ft_X7_undo_32, ft_X7_undo_33, ft_X7_undo_36, ft_X7_undo_37, ft_X7_undo_38, ft_X7_undo_39, ft_X7_undo_41, ft_X7_undo_44, ft_X7_undo_45, ft_X7_undo_48, ft_X7_undo_49, ft_X7_undo_50, ft_X7_undo_53, ft_X7_undo_55, ft_X7_undo_56, ft_X7_undo_59, ft_X7_undo_60, ft_X7_undo_61, ft_X7_undo_62, ft_X7_undo_63, ft_X7_undo_64, ft_X7_undo_67, ft_X7_undo_70, ft_X7_undo_71, ft_X7_undo_74, hq, fl_71_12, fl_71_14, fl_71_10, e14, e1, as_78, al_80, v1, v2, nI_1, hrow_hrow, nI_clamp (show j < 2 ^ 31 by omega), nI_clamp (show 40 * b + j < 2 ^ 31 by omega)]
    refine ih (j + 1) (by omega) _ (cf.upd (by omega)) fun i hi => ?_
    by_cases q : i = j
    · subst q; rw [upd_eq]
    · rw [upd_ne q]; exact hf i (by omega)
theorem prv_mod {n : Nat} (h : n < 14) : (n + 13) % 14 = prv n := by
  unfold prv
  by_cases g : 0 < n
  · rw [if_pos g]; omega
  · rw [if_neg g]; omega
theorem ok_X7_undo : jMeets Y_X7_undo S_X7_undo := by
  intro nb vs mem Q h
  obtain ⟨C, z, nx, ct, rfl, rfl, ⟨hx, h14⟩, ⟨hc, hc14⟩, c78, h0, h1⟩ := h
  refine Ok.run OK_X7_undo [38] 60 [none] pn7 (Nat.le_of_ble_eq_true rfl) rfl ?_
  by_cases g : ct = 0
  · have e : (nI ct = 0) = True := eq_true (by rw [g]; rfl)
    simp -implicitDefEqProofs only [jr_0, jr_1, jr_2, j_iconst, j_lconst, j_iload0, j_aload0, j_istore0, j_astore0, j_iinc0, j_iload1, j_aload1, j_istore1, j_astore1, j_iinc1, j_iload2, j_aload2, j_istore2, j_astore2, j_iinc2, j_iload3, j_aload3, j_istore3, j_astore3, j_iinc3, j_iload4, j_aload4, j_istore4, j_astore4, j_iinc4, j_iload5, j_aload5, j_istore5, j_astore5, j_iinc5, j_iload6, j_aload6, j_istore6, j_astore6, j_iinc6, j_iload7, j_aload7, j_istore7, j_astore7, j_iinc7, j_iload8, j_aload8, j_istore8, j_astore8, j_iinc8, j_iadd, j_isub, j_imul, j_iand, j_ior, j_ixor, j_ishl, j_ishr, j_iushr, j_idiv, j_irem, j_ineg, j_ladd, j_lmul, j_land, j_lor, j_lcmp, j_lushr, j_lshl, j_i2l, j_l2i, j_dupI, j_dupR, j_popI, j_dup2, j_ifeq, j_iceq, j_ifne, j_icne, j_iflt, j_iclt, j_ifge, j_icge, j_ifgt, j_icgt, j_ifle, j_icle, j_goto, j_tsw, j_sw0, j_sw1, j_ireturn, j_zreturn, j_lreturn, j_return, j_getfield, j_putI, j_putJ, j_putR, j_iaload, j_baload, j_iastore, j_bastore, j_aaload, j_q, j_aastore, j_acopy, j_mmin, j_mmax, j_mabs, j_objinit, j_new, j_newI, j_newQ, j_sld, j_slen, j_callV0, j_callI0, j_callS0, j_callV1, j_callI1, j_callS1, j_callV2, j_callI2, j_callS2, j_callV3, j_callS3, j_callV4, j_callS4, j_callV5, j_callS5, j_pushS, j_pushN, j_sh0, j_sh1, j_sh2, j_sh3, j_sh4, Int32.reduceAdd, Int32.reduceMul, Int32.reduceSub, Int32.reduceLT, Int32.reduceLE, eq_self, i32_10, i32_01, ne_eq, hrow_s, hrow_n, ne10, ne100, ne1000, ne7, ne4, ne14, ne9973, or_true, true_or, or_false, false_or, not_true_eq_false, not_false_eq_true, false_implies, implies_true, and_true, forall_const, true_implies, jargs_n, jargs_r, jargs_i, List.cons_append, List.nil_append, true_and, Nat.reduceEqDiff, reduceIte, ft_X7_undo_0, ft_X7_undo_1, ft_X7_undo_4, ft_X7_undo_7, ft_X7_undo_9, ft_X7_undo_10, ft_X7_undo_11, ft_X7_undo_12, ft_X7_undo_15, ft_X7_undo_16, ft_X7_undo_17, ft_X7_undo_20, ft_X7_undo_21, ft_X7_undo_22, ft_X7_undo_25, ft_X7_undo_27, ft_X7_undo_28, ft_X7_undo_29, ft_X7_undo_30, ft_X7_undo_32, ft_X7_undo_33, ft_X7_undo_36, ft_X7_undo_37, ft_X7_undo_38, ft_X7_undo_39, ft_X7_undo_41, ft_X7_undo_44, ft_X7_undo_45, ft_X7_undo_48, ft_X7_undo_49, ft_X7_undo_50, ft_X7_undo_53, ft_X7_undo_55, ft_X7_undo_56, ft_X7_undo_59, ft_X7_undo_60, ft_X7_undo_61, ft_X7_undo_62, ft_X7_undo_63, ft_X7_undo_64, ft_X7_undo_67, ft_X7_undo_70, ft_X7_undo_71, ft_X7_undo_74, fl_71_13, hc, e]
    exact h0 g
  · have e : (nI ct = 0) = False := eq_false (by rw [show (0 : Int32) = nI 0 from rfl, nI_eqq (by omega) (by omega)]; exact g)
    have e1 : nI ct - 1 = nI (ct - 1) := nI_sub (b := 1) (by omega) (by omega)
    have e2 : nI nx + 14 - 1 = nI (nx + 13) := by rw [show (14 : Int32) = nI 14 from rfl, nI_add, show (1 : Int32) = nI 1 from rfl, nI_sub (by omega) (by omega), show nx + 14 - 1 = nx + 13 by omega]
    have e3 : nI (nx + 13) - nI (nx + 13) / 14 * 14 = nI (prv nx) := by rw [show (14 : Int32) = nI 14 from rfl, nI_mod (by omega) (by omega) (by omega), prv_mod h14]
    simp -implicitDefEqProofs only [jr_0, jr_1, jr_2, j_iconst, j_lconst, j_iload0, j_aload0, j_istore0, j_astore0, j_iinc0, j_iload1, j_aload1, j_istore1, j_astore1, j_iinc1, j_iload2, j_aload2, j_istore2, j_astore2, j_iinc2, j_iload3, j_aload3, j_istore3, j_astore3, j_iinc3, j_iload4, j_aload4, j_istore4, j_astore4, j_iinc4, j_iload5, j_aload5, j_istore5, j_astore5, j_iinc5, j_iload6, j_aload6, j_istore6, j_astore6, j_iinc6, j_iload7, j_aload7, j_istore7, j_astore7, j_iinc7, j_iload8, j_aload8, j_istore8, j_astore8, j_iinc8, j_iadd, j_isub, j_imul, j_iand, j_ior, j_ixor, j_ishl, j_ishr, j_iushr, j_idiv, j_irem, j_ineg, j_ladd, j_lmul, j_land, j_lor, j_lcmp, j_lushr, j_lshl, j_i2l, j_l2i, j_dupI, j_dupR, j_popI, j_dup2, j_ifeq, j_iceq, j_ifne, j_icne, j_iflt, j_iclt, j_ifge, j_icge, j_ifgt, j_icgt, j_ifle, j_icle, j_goto, j_tsw, j_sw0, j_sw1, j_ireturn, j_zreturn, j_lreturn, j_return, j_getfield, j_putI, j_putJ, j_putR, j_iaload, j_baload, j_iastore, j_bastore, j_aaload, j_q, j_aastore, j_acopy, j_mmin, j_mmax, j_mabs, j_objinit, j_new, j_newI, j_newQ, j_sld, j_slen, j_callV0, j_callI0, j_callS0, j_callV1, j_callI1, j_callS1, j_callV2, j_callI2, j_callS2, j_callV3, j_callS3, j_callV4, j_callS4, j_callV5, j_callS5, j_pushS, j_pushN, j_sh0, j_sh1, j_sh2, j_sh3, j_sh4, Int32.reduceAdd, Int32.reduceMul, Int32.reduceSub, Int32.reduceLT, Int32.reduceLE, eq_self, i32_10, i32_01, ne_eq, hrow_s, hrow_n, ne10, ne100, ne1000, ne7, ne4, ne14, ne9973, or_true, true_or, or_false, false_or, not_true_eq_false, not_false_eq_true, false_implies, implies_true, and_true, forall_const, true_implies, jargs_n, jargs_r, jargs_i, List.cons_append, List.nil_append, true_and, Nat.reduceEqDiff, reduceIte, ft_X7_undo_0, ft_X7_undo_1, ft_X7_undo_4, ft_X7_undo_7, ft_X7_undo_9, ft_X7_undo_10, ft_X7_undo_11, ft_X7_undo_12, ft_X7_undo_15, ft_X7_undo_16, ft_X7_undo_17, ft_X7_undo_20, ft_X7_undo_21, ft_X7_undo_22, ft_X7_undo_25, ft_X7_undo_27, ft_X7_undo_28, ft_X7_undo_29, ft_X7_undo_30, ft_X7_undo_32, ft_X7_undo_33, ft_X7_undo_36, ft_X7_undo_37, ft_X7_undo_38, ft_X7_undo_39, ft_X7_undo_41, ft_X7_undo_44, ft_X7_undo_45, ft_X7_undo_48, ft_X7_undo_49, ft_X7_undo_50, ft_X7_undo_53, ft_X7_undo_55, ft_X7_undo_56, ft_X7_undo_59, ft_X7_undo_60, ft_X7_undo_61, ft_X7_undo_62, ft_X7_undo_63, ft_X7_undo_64, ft_X7_undo_67, ft_X7_undo_70, ft_X7_undo_71, ft_X7_undo_74, fl_71_13, fl_71_14, fp_71_13, fp_71_14, hc, hx, e, e1, upd_ne (show 14 ≠ 13 by decide), e2, e3, hrow_hrow]
    have := lp_X7_undo (nb := nb) (Q := Q) (z := z) (C := hrow C 71 (upd (upd (C 71) 13 (nI (ct - 1))) 14 (nI (prv nx)))) (c := ct - 1) (prv_lt h14) (by rw [hrow_s, upd_eq]) (by rw [hrow_s, upd_ne (by decide), upd_eq]) (fun ρ c1 c2 => h1 g ρ c1 fun k hk => by rw [c2 k hk, hrow_n (by decide)]) 40 0 (by omega) (C 78) c78 (fun i hi => absurd hi (Nat.not_lt_zero i))
    have e5 : hrow (hrow C 71 (upd (upd (C 71) 13 (nI (ct - 1))) 14 (nI (prv nx)))) 78 (C 78) = hrow C 71 (upd (upd (C 71) 13 (nI (ct - 1))) 14 (nI (prv nx))) := by
      have := hrow_self (C := hrow C 71 (upd (upd (C 71) 13 (nI (ct - 1))) 14 (nI (prv nx)))) (a := 78)
      rw [hrow_n (show 78 ≠ 71 by decide)] at this
      exact this
    rw [e5] at this
    exact this
theorem co_undo : Co S_X6_undo S_X7_undo [.ref 0] [.ref 71] := by
  intro n C z h hn nb Q hQ
  obtain ⟨P, K, L, nx, ct, sn, h⟩ := h
  have k := h.ak
  obtain ⟨⟨⟨hx, h14, hc, hc14, hcr⟩, hm14, hm13⟩, hh⟩ := h.hr
  rw [s_X6_undo k.rc ⟨hx, h14, hc, hc14, hcr⟩]
  by_cases g : ct = 0
  · rw [if_pos g]
    refine hQ _ _ _ fun nb Q hq => ⟨C, z, nx, ct, rfl, rfl, ⟨hm14, h14⟩, ⟨hm13, hc14⟩, by rw [k.e]; exact k.iv.cut, fun _ => hq C z (h.rel k.rf h.hz), fun q => absurd g q⟩
  · rw [if_neg g]
    have hp : prv nx < 14 := prv_lt h14
    have u71 : undoC C nx ct 71 = C 71 := rfl
    have u78 : undoC C nx ct 78 = C 78 := rfl
    have u80 : undoC C nx ct 80 = C 80 := rfl
    refine hQ _ _ _ fun nb Q hq => ⟨undoC C nx ct, z, nx, ct, rfl, rfl, ⟨by rw [u71]; exact hm14, h14⟩, ⟨by rw [u71]; exact hm13, hc14⟩, by rw [u78, k.e]; exact k.iv.cut, fun q => absurd q g, fun _ ρ c1 c2 => ?_⟩
    rw [u71]
    rw [u80] at c2
    obtain ⟨i0, hi0⟩ := hh 0 (by omega)
    rw [(bk_p (i := 0) h14 (by omega)).2] at i0 hi0
    have eρ : ρ = C (17 + 3 * prv nx) := c1.ext i0.cut fun i hi => by rw [c2 i hi, hi0 i hi]
    subst eρ
    refine hq _ _ ⟨P, K, L, prv nx, ct - 1, sn, ?_⟩
    generalize hC : hrow (hrow (undoC C nx ct) 71 (upd (upd (C 71) 13 (nI (ct - 1))) 14 (nI (prv nx)))) 78 (C (17 + 3 * prv nx)) = C'
    have r : ∀ a, (a != 9 && (a != 15 && (a != 71 && a != 78))) = true → C' a = C a := fun a ha => by
      simp at ha
      obtain ⟨q1, q2, q3, q4⟩ := ha
      rw [← hC, hrow_n q4, hrow_n q3]
      unfold undoC
      rw [hrow_n q1, hrow_n q2]
    have f : ∀ i, i ≠ 13 → i ≠ 14 → C' 71 i = C 71 i := fun i q1 q2 => by
      rw [← hC, hrow_n (by decide), hrow_s, upd_ne q2, upd_ne q1]
    have e9 : C' 9 = C (17 + 3 * prv nx) := by rw [← hC]; rfl
    have e78 : C' 78 = C (17 + 3 * prv nx) := by rw [← hC, hrow_s]
    have e15 : C' 15 1 = nI (prv nx) ∧ C' 15 2 = nI (ct - 1) := by
      rw [← hC]
      exact ⟨rfl, rfl⟩
    have e71 : C' 71 14 = nI (prv nx) ∧ C' 71 13 = nI (ct - 1) := by
      rw [← hC]
      exact ⟨rfl, rfl⟩
    have rr : ∀ j, j < 14 → C' (17 + 3 * j) = C (17 + 3 * j) := fun j hj => r _ (by simp; omega)
    refine ⟨⟨h.hz, by rw [f 22 (by decide) (by decide)]; exact h.h15, by rw [f 23 (by decide) (by decide)]; exact h.h9⟩, ?_, ?_, ?_, ?_, ?_⟩
    · refine ⟨?_, ⟨by rw [e9, e78], by rw [e9]; exact i0.le (by omega)⟩, by rw [r 12 rfl]; exact k.2.2.1, by rw [r 79 rfl]; exact k.2.2.2⟩
      exact k.s.eq (r 3 rfl) (r 4 rfl) (r 5 rfl) (f 2 (by decide) (by decide)) (f 4 (by decide) (by decide)) (f 9 (by decide) (by decide)) (r 73 rfl) (r 74 rfl) (r 75 rfl) (r 76 rfl) (r 77 rfl)
    · exact h.tr.eq (r 1 rfl) (r 2 rfl) (r 72 rfl) (f 1 (by decide) (by decide))
    · refine ⟨⟨⟨e15.1, hp, e15.2, by omega, fun j hj => by rw [rr j hj]; exact hcr j hj⟩, e71.1, e71.2⟩, fun i hi => ?_⟩
      rw [(bk_p (i := i) h14 (by omega)).1, rr _ bk_lt, r 80 rfl]
      obtain ⟨g1, g2⟩ := hh (i + 1) (by omega)
      exact ⟨g1.le (by omega), g2⟩
    · exact (h.kr.eq (r 0 rfl) (r 82 rfl) (r 65 rfl) (r 68 rfl) (r 81 rfl)).le (by omega)
    · exact h.or.eq (r 60 rfl) (r 61 rfl) (r 62 rfl) (r 63 rfl) (r 83 rfl) (r 84 rfl) (r 85 rfl) (f 20 (by decide) (by decide))
/-! bits -/
theorem hasP_bit {a : Int32} {k : Nat} (hk : k < 4) : hasP a (nI k) = (a.toBitVec.getLsbD k = true) := by
  have key : ∀ (b : BitVec 32) (k : Nat), k < 4 → (b.sshiftRight k &&& 1#32 = 1#32 ↔ b.getLsbD k = true) := by
    intro b k hk
    constructor
    · intro h
      have := congrArg (fun v : BitVec 32 => v.getLsbD 0) h
      simpa [BitVec.getLsbD_sshiftRight, BitVec.getElem_sshiftRight, show k < 32 by omega, show k < 32 - 0 by omega] using this
    · intro h
      ext i hi
      by_cases q : i = 0
      · subst q
        simp [BitVec.getElem_sshiftRight, BitVec.getLsbD_eq_getElem, show k < 32 by omega] at h ⊢
        exact h
      · simp [q]
  unfold hasP
  have hk' : k = 0 ∨ k = 1 ∨ k = 2 ∨ k = 3 := by omega
  rw [← Int32.toBitVec_inj, Int32.toBitVec_and, Int32.toBitVec_shiftRight]
  have := key a.toBitVec k hk
  rcases hk' with rfl | rfl | rfl | rfl <;> exact propext this
/-! keep -/
def S_X7_keep : jSp := fun _ vs mem Q => ∃ C z, ∃ i : Int32, vs = [.ref 71, .int i] ∧ mem = memS 94 C z ∧ (∀ j, j < 2 → i = nI j → ∀ f : Nat → Int32, (∀ k, k < 40 → f (40 * j + k) = C 78 k) → (∀ m, (∀ k, k < 40 → m ≠ 40 * j + k) → f m = C 81 m) → Q (some (.int (C 78 39))) (memS 94 (hrow (hrow C 82 (upd (C 82) j 1)) 81 f) z)) ∧ (¬ (0 ≤ i ∧ i ≤ 1) → Q (some (.int (-1))) (memS 94 C z))
def F_X7_keep_0 : Nat → jT := fun pc => (bif Nat.blt pc 6 then (bif Nat.blt pc 2 then (bif Nat.blt pc 1 then (bif Nat.beq pc 0 then J_iload 1 1 else jbad) else (bif Nat.beq pc 1 then J_iconst 0 2 else jbad)) else (bif Nat.blt pc 3 then (bif Nat.beq pc 2 then J_iconst 1 3 else jbad) else (bif Nat.beq pc 3 then J_callS S_X7_in 3 6 else jbad))) else (bif Nat.blt pc 10 then (bif Nat.blt pc 9 then (bif Nat.beq pc 6 then J_ifne 11 9 else jbad) else (bif Nat.beq pc 9 then J_iconst (-1) 10 else jbad)) else (bif Nat.blt pc 11 then (bif Nat.beq pc 10 then J_ireturn 0 0 else jbad) else (bif Nat.blt pc 12 then (bif Nat.beq pc 11 then J_aload 0 12 else jbad) else (bif Nat.beq pc 12 then J_getfield 7 16 15 else jbad)))))
theorem ftl_X7_keep_0 : F_X7_keep_0 0 = J_iload 1 1 := rfl
theorem ftl_X7_keep_1 : F_X7_keep_0 1 = J_iconst 0 2 := rfl
theorem ftl_X7_keep_2 : F_X7_keep_0 2 = J_iconst 1 3 := rfl
theorem ftl_X7_keep_3 : F_X7_keep_0 3 = J_callS S_X7_in 3 6 := rfl
theorem ftl_X7_keep_6 : F_X7_keep_0 6 = J_ifne 11 9 := rfl
theorem ftl_X7_keep_9 : F_X7_keep_0 9 = J_iconst (-1) 10 := rfl
theorem ftl_X7_keep_10 : F_X7_keep_0 10 = J_ireturn 0 0 := rfl
theorem ftl_X7_keep_11 : F_X7_keep_0 11 = J_aload 0 12 := rfl
theorem ftl_X7_keep_12 : F_X7_keep_0 12 = J_getfield 7 16 15 := rfl
theorem F_X7_keep_0_ok : jOK Y_X7_keep none (F_X7_keep_0) := (jOK_node (jOK_node (jOK_node (jOK_leaf (sn_iload_n dX7_keep_0 rfl rfl)) (jOK_leaf (sn_iconst dX7_keep_1 rfl rfl))) (jOK_node (jOK_leaf (sn_iconst dX7_keep_2 rfl rfl)) (jOK_leaf (sn_callS (Y' := Y_X7_in) ok_X7_in dX7_keep_3 rfl rfl tw_737 tw_738 tw_8 jc_X7_in ⟨by decide, by decide, rfl⟩ ⟨by decide, by decide⟩)))) (jOK_node (jOK_node (jOK_leaf (sn_ifne dX7_keep_6 rfl rfl)) (jOK_leaf (sn_iconst dX7_keep_9 rfl rfl))) (jOK_node (jOK_leaf (sn_ireturn dX7_keep_10 rfl rfl)) (jOK_node (jOK_leaf (sn_aload_n dX7_keep_11 rfl rfl)) (jOK_leaf (sn_getfield dX7_keep_12 rfl rfl (by decide) tw_630 jin7))))))
def F_X7_keep_15 : Nat → jT := fun pc => (bif Nat.blt pc 19 then (bif Nat.blt pc 17 then (bif Nat.blt pc 16 then (bif Nat.beq pc 15 then J_iload 1 16 else jbad) else (bif Nat.beq pc 16 then J_iconst 1 17 else jbad)) else (bif Nat.blt pc 18 then (bif Nat.beq pc 17 then J_bastore 18 else jbad) else (bif Nat.beq pc 18 then J_iconst 0 19 else jbad))) else (bif Nat.blt pc 21 then (bif Nat.blt pc 20 then (bif Nat.beq pc 19 then J_istore 2 20 else jbad) else (bif Nat.beq pc 20 then J_iload 2 21 else jbad)) else (bif Nat.blt pc 23 then (bif Nat.beq pc 21 then J_iconst 40 23 else jbad) else (bif Nat.blt pc 26 then (bif Nat.beq pc 23 then J_icge 49 26 else jbad) else (bif Nat.beq pc 26 then J_aload 0 27 else jbad)))))
theorem ftl_X7_keep_15 : F_X7_keep_15 15 = J_iload 1 16 := rfl
theorem ftl_X7_keep_16 : F_X7_keep_15 16 = J_iconst 1 17 := rfl
theorem ftl_X7_keep_17 : F_X7_keep_15 17 = J_bastore 18 := rfl
theorem ftl_X7_keep_18 : F_X7_keep_15 18 = J_iconst 0 19 := rfl
theorem ftl_X7_keep_19 : F_X7_keep_15 19 = J_istore 2 20 := rfl
theorem ftl_X7_keep_20 : F_X7_keep_15 20 = J_iload 2 21 := rfl
theorem ftl_X7_keep_21 : F_X7_keep_15 21 = J_iconst 40 23 := rfl
theorem ftl_X7_keep_23 : F_X7_keep_15 23 = J_icge 49 26 := rfl
theorem ftl_X7_keep_26 : F_X7_keep_15 26 = J_aload 0 27 := rfl
theorem F_X7_keep_15_ok : jOK Y_X7_keep none (F_X7_keep_15) := (jOK_node (jOK_node (jOK_node (jOK_leaf (sn_iload_n dX7_keep_15 rfl rfl)) (jOK_leaf (sn_iconst dX7_keep_16 rfl rfl))) (jOK_node (jOK_leaf (sn_bastore dX7_keep_17 rfl)) (jOK_leaf (sn_iconst dX7_keep_18 rfl rfl)))) (jOK_node (jOK_node (jOK_leaf (sn_istore_n dX7_keep_19 rfl rfl (by decide))) (jOK_leaf (sn_iload_n dX7_keep_20 rfl rfl))) (jOK_node (jOK_leaf (sn_bipush dX7_keep_21 rfl rfl)) (jOK_node (jOK_leaf (sn_icge dX7_keep_23 rfl rfl)) (jOK_leaf (sn_aload_n dX7_keep_26 rfl rfl))))))
def F_X7_keep_0_26 : Nat → jT := fun pc => bif Nat.blt pc 15 then F_X7_keep_0 pc else F_X7_keep_15 pc
theorem F_X7_keep_0_26_l {pc : Nat} (h : Nat.blt pc 15 = true) : F_X7_keep_0_26 pc = F_X7_keep_0 pc := by unfold F_X7_keep_0_26; rw [h]; rfl
theorem F_X7_keep_0_26_r {pc : Nat} (h : Nat.blt pc 15 = false) : F_X7_keep_0_26 pc = F_X7_keep_15 pc := by unfold F_X7_keep_0_26; rw [h]; rfl
theorem F_X7_keep_0_26_ok : jOK Y_X7_keep none (F_X7_keep_0_26) := jOK_node (F_X7_keep_0_ok) (F_X7_keep_15_ok)
def F_X7_keep_27 : Nat → jT := fun pc => (bif Nat.blt pc 34 then (bif Nat.blt pc 32 then (bif Nat.blt pc 30 then (bif Nat.beq pc 27 then J_getfield 7 15 30 else jbad) else (bif Nat.beq pc 30 then J_iconst 40 32 else jbad)) else (bif Nat.blt pc 33 then (bif Nat.beq pc 32 then J_iload 1 33 else jbad) else (bif Nat.beq pc 33 then J_imul 34 else jbad))) else (bif Nat.blt pc 36 then (bif Nat.blt pc 35 then (bif Nat.beq pc 34 then J_iload 2 35 else jbad) else (bif Nat.beq pc 35 then J_iadd 36 else jbad)) else (bif Nat.blt pc 37 then (bif Nat.beq pc 36 then J_aload 0 37 else jbad) else (bif Nat.blt pc 40 then (bif Nat.beq pc 37 then J_getfield 7 10 40 else jbad) else (bif Nat.beq pc 40 then J_iload 2 41 else jbad)))))
theorem ftl_X7_keep_27 : F_X7_keep_27 27 = J_getfield 7 15 30 := rfl
theorem ftl_X7_keep_30 : F_X7_keep_27 30 = J_iconst 40 32 := rfl
theorem ftl_X7_keep_32 : F_X7_keep_27 32 = J_iload 1 33 := rfl
theorem ftl_X7_keep_33 : F_X7_keep_27 33 = J_imul 34 := rfl
theorem ftl_X7_keep_34 : F_X7_keep_27 34 = J_iload 2 35 := rfl
theorem ftl_X7_keep_35 : F_X7_keep_27 35 = J_iadd 36 := rfl
theorem ftl_X7_keep_36 : F_X7_keep_27 36 = J_aload 0 37 := rfl
theorem ftl_X7_keep_37 : F_X7_keep_27 37 = J_getfield 7 10 40 := rfl
theorem ftl_X7_keep_40 : F_X7_keep_27 40 = J_iload 2 41 := rfl
theorem F_X7_keep_27_ok : jOK Y_X7_keep none (F_X7_keep_27) := (jOK_node (jOK_node (jOK_node (jOK_leaf (sn_getfield dX7_keep_27 rfl rfl (by decide) tw_629 jin7)) (jOK_leaf (sn_bipush dX7_keep_30 rfl rfl))) (jOK_node (jOK_leaf (sn_iload_n dX7_keep_32 rfl rfl)) (jOK_leaf (sn_imul dX7_keep_33 rfl)))) (jOK_node (jOK_node (jOK_leaf (sn_iload_n dX7_keep_34 rfl rfl)) (jOK_leaf (sn_iadd dX7_keep_35 rfl))) (jOK_node (jOK_leaf (sn_aload_n dX7_keep_36 rfl rfl)) (jOK_node (jOK_leaf (sn_getfield dX7_keep_37 rfl rfl (by decide) tw_624 jin7)) (jOK_leaf (sn_iload_n dX7_keep_40 rfl rfl))))))
def F_X7_keep_41 : Nat → jT := fun pc => (bif Nat.blt pc 49 then (bif Nat.blt pc 43 then (bif Nat.blt pc 42 then (bif Nat.beq pc 41 then J_iaload 42 else jbad) else (bif Nat.beq pc 42 then J_iastore 43 else jbad)) else (bif Nat.blt pc 46 then (bif Nat.beq pc 43 then J_iinc 2 1 46 else jbad) else (bif Nat.beq pc 46 then J_goto 20 else jbad))) else (bif Nat.blt pc 53 then (bif Nat.blt pc 50 then (bif Nat.beq pc 49 then J_aload 0 50 else jbad) else (bif Nat.beq pc 50 then J_getfield 7 10 53 else jbad)) else (bif Nat.blt pc 55 then (bif Nat.beq pc 53 then J_iconst 39 55 else jbad) else (bif Nat.blt pc 56 then (bif Nat.beq pc 55 then J_iaload 56 else jbad) else (bif Nat.beq pc 56 then J_ireturn 0 0 else jbad)))))
theorem ftl_X7_keep_41 : F_X7_keep_41 41 = J_iaload 42 := rfl
theorem ftl_X7_keep_42 : F_X7_keep_41 42 = J_iastore 43 := rfl
theorem ftl_X7_keep_43 : F_X7_keep_41 43 = J_iinc 2 1 46 := rfl
theorem ftl_X7_keep_46 : F_X7_keep_41 46 = J_goto 20 := rfl
theorem ftl_X7_keep_49 : F_X7_keep_41 49 = J_aload 0 50 := rfl
theorem ftl_X7_keep_50 : F_X7_keep_41 50 = J_getfield 7 10 53 := rfl
theorem ftl_X7_keep_53 : F_X7_keep_41 53 = J_iconst 39 55 := rfl
theorem ftl_X7_keep_55 : F_X7_keep_41 55 = J_iaload 56 := rfl
theorem ftl_X7_keep_56 : F_X7_keep_41 56 = J_ireturn 0 0 := rfl
theorem F_X7_keep_41_ok : jOK Y_X7_keep none (F_X7_keep_41) := (jOK_node (jOK_node (jOK_node (jOK_leaf (sn_iaload dX7_keep_41 rfl)) (jOK_leaf (sn_iastore dX7_keep_42 rfl))) (jOK_node (jOK_leaf (sn_iinc dX7_keep_43 rfl rfl (by decide))) (jOK_leaf (sn_goto dX7_keep_46 rfl)))) (jOK_node (jOK_node (jOK_leaf (sn_aload_n dX7_keep_49 rfl rfl)) (jOK_leaf (sn_getfield dX7_keep_50 rfl rfl (by decide) tw_624 jin7))) (jOK_node (jOK_leaf (sn_bipush dX7_keep_53 rfl rfl)) (jOK_node (jOK_leaf (sn_iaload dX7_keep_55 rfl)) (jOK_leaf (sn_ireturn dX7_keep_56 rfl rfl))))))
def F_X7_keep_27_56 : Nat → jT := fun pc => bif Nat.blt pc 41 then F_X7_keep_27 pc else F_X7_keep_41 pc
theorem F_X7_keep_27_56_l {pc : Nat} (h : Nat.blt pc 41 = true) : F_X7_keep_27_56 pc = F_X7_keep_27 pc := by unfold F_X7_keep_27_56; rw [h]; rfl
theorem F_X7_keep_27_56_r {pc : Nat} (h : Nat.blt pc 41 = false) : F_X7_keep_27_56 pc = F_X7_keep_41 pc := by unfold F_X7_keep_27_56; rw [h]; rfl
theorem F_X7_keep_27_56_ok : jOK Y_X7_keep none (F_X7_keep_27_56) := jOK_node (F_X7_keep_27_ok) (F_X7_keep_41_ok)
def F_X7_keep_0_56 : Nat → jT := fun pc => bif Nat.blt pc 27 then F_X7_keep_0_26 pc else F_X7_keep_27_56 pc
theorem F_X7_keep_0_56_l {pc : Nat} (h : Nat.blt pc 27 = true) : F_X7_keep_0_56 pc = F_X7_keep_0_26 pc := by unfold F_X7_keep_0_56; rw [h]; rfl
theorem F_X7_keep_0_56_r {pc : Nat} (h : Nat.blt pc 27 = false) : F_X7_keep_0_56 pc = F_X7_keep_27_56 pc := by unfold F_X7_keep_0_56; rw [h]; rfl
theorem F_X7_keep_0_56_ok : jOK Y_X7_keep none (F_X7_keep_0_56) := jOK_node (F_X7_keep_0_26_ok) (F_X7_keep_27_56_ok)
def F_X7_keep : Nat → jT := F_X7_keep_0_56
theorem OK_X7_keep : jOK Y_X7_keep none (F_X7_keep) := F_X7_keep_0_56_ok
theorem ft_X7_keep_0 : F_X7_keep 0 = J_iload 1 1 := (F_X7_keep_0_56_l rfl).trans ((F_X7_keep_0_26_l rfl).trans (ftl_X7_keep_0))
theorem ft_X7_keep_1 : F_X7_keep 1 = J_iconst 0 2 := (F_X7_keep_0_56_l rfl).trans ((F_X7_keep_0_26_l rfl).trans (ftl_X7_keep_1))
theorem ft_X7_keep_2 : F_X7_keep 2 = J_iconst 1 3 := (F_X7_keep_0_56_l rfl).trans ((F_X7_keep_0_26_l rfl).trans (ftl_X7_keep_2))
theorem ft_X7_keep_3 : F_X7_keep 3 = J_callS S_X7_in 3 6 := (F_X7_keep_0_56_l rfl).trans ((F_X7_keep_0_26_l rfl).trans (ftl_X7_keep_3))
theorem ft_X7_keep_6 : F_X7_keep 6 = J_ifne 11 9 := (F_X7_keep_0_56_l rfl).trans ((F_X7_keep_0_26_l rfl).trans (ftl_X7_keep_6))
theorem ft_X7_keep_9 : F_X7_keep 9 = J_iconst (-1) 10 := (F_X7_keep_0_56_l rfl).trans ((F_X7_keep_0_26_l rfl).trans (ftl_X7_keep_9))
theorem ft_X7_keep_10 : F_X7_keep 10 = J_ireturn 0 0 := (F_X7_keep_0_56_l rfl).trans ((F_X7_keep_0_26_l rfl).trans (ftl_X7_keep_10))
theorem ft_X7_keep_11 : F_X7_keep 11 = J_aload 0 12 := (F_X7_keep_0_56_l rfl).trans ((F_X7_keep_0_26_l rfl).trans (ftl_X7_keep_11))
theorem ft_X7_keep_12 : F_X7_keep 12 = J_getfield 7 16 15 := (F_X7_keep_0_56_l rfl).trans ((F_X7_keep_0_26_l rfl).trans (ftl_X7_keep_12))
theorem ft_X7_keep_15 : F_X7_keep 15 = J_iload 1 16 := (F_X7_keep_0_56_l rfl).trans ((F_X7_keep_0_26_r rfl).trans (ftl_X7_keep_15))
theorem ft_X7_keep_16 : F_X7_keep 16 = J_iconst 1 17 := (F_X7_keep_0_56_l rfl).trans ((F_X7_keep_0_26_r rfl).trans (ftl_X7_keep_16))
theorem ft_X7_keep_17 : F_X7_keep 17 = J_bastore 18 := (F_X7_keep_0_56_l rfl).trans ((F_X7_keep_0_26_r rfl).trans (ftl_X7_keep_17))
theorem ft_X7_keep_18 : F_X7_keep 18 = J_iconst 0 19 := (F_X7_keep_0_56_l rfl).trans ((F_X7_keep_0_26_r rfl).trans (ftl_X7_keep_18))
theorem ft_X7_keep_19 : F_X7_keep 19 = J_istore 2 20 := (F_X7_keep_0_56_l rfl).trans ((F_X7_keep_0_26_r rfl).trans (ftl_X7_keep_19))
theorem ft_X7_keep_20 : F_X7_keep 20 = J_iload 2 21 := (F_X7_keep_0_56_l rfl).trans ((F_X7_keep_0_26_r rfl).trans (ftl_X7_keep_20))
theorem ft_X7_keep_21 : F_X7_keep 21 = J_iconst 40 23 := (F_X7_keep_0_56_l rfl).trans ((F_X7_keep_0_26_r rfl).trans (ftl_X7_keep_21))
theorem ft_X7_keep_23 : F_X7_keep 23 = J_icge 49 26 := (F_X7_keep_0_56_l rfl).trans ((F_X7_keep_0_26_r rfl).trans (ftl_X7_keep_23))
theorem ft_X7_keep_26 : F_X7_keep 26 = J_aload 0 27 := (F_X7_keep_0_56_l rfl).trans ((F_X7_keep_0_26_r rfl).trans (ftl_X7_keep_26))
theorem ft_X7_keep_27 : F_X7_keep 27 = J_getfield 7 15 30 := (F_X7_keep_0_56_r rfl).trans ((F_X7_keep_27_56_l rfl).trans (ftl_X7_keep_27))
theorem ft_X7_keep_30 : F_X7_keep 30 = J_iconst 40 32 := (F_X7_keep_0_56_r rfl).trans ((F_X7_keep_27_56_l rfl).trans (ftl_X7_keep_30))
theorem ft_X7_keep_32 : F_X7_keep 32 = J_iload 1 33 := (F_X7_keep_0_56_r rfl).trans ((F_X7_keep_27_56_l rfl).trans (ftl_X7_keep_32))
theorem ft_X7_keep_33 : F_X7_keep 33 = J_imul 34 := (F_X7_keep_0_56_r rfl).trans ((F_X7_keep_27_56_l rfl).trans (ftl_X7_keep_33))
theorem ft_X7_keep_34 : F_X7_keep 34 = J_iload 2 35 := (F_X7_keep_0_56_r rfl).trans ((F_X7_keep_27_56_l rfl).trans (ftl_X7_keep_34))
theorem ft_X7_keep_35 : F_X7_keep 35 = J_iadd 36 := (F_X7_keep_0_56_r rfl).trans ((F_X7_keep_27_56_l rfl).trans (ftl_X7_keep_35))
theorem ft_X7_keep_36 : F_X7_keep 36 = J_aload 0 37 := (F_X7_keep_0_56_r rfl).trans ((F_X7_keep_27_56_l rfl).trans (ftl_X7_keep_36))
theorem ft_X7_keep_37 : F_X7_keep 37 = J_getfield 7 10 40 := (F_X7_keep_0_56_r rfl).trans ((F_X7_keep_27_56_l rfl).trans (ftl_X7_keep_37))
theorem ft_X7_keep_40 : F_X7_keep 40 = J_iload 2 41 := (F_X7_keep_0_56_r rfl).trans ((F_X7_keep_27_56_l rfl).trans (ftl_X7_keep_40))
theorem ft_X7_keep_41 : F_X7_keep 41 = J_iaload 42 := (F_X7_keep_0_56_r rfl).trans ((F_X7_keep_27_56_r rfl).trans (ftl_X7_keep_41))
theorem ft_X7_keep_42 : F_X7_keep 42 = J_iastore 43 := (F_X7_keep_0_56_r rfl).trans ((F_X7_keep_27_56_r rfl).trans (ftl_X7_keep_42))
theorem ft_X7_keep_43 : F_X7_keep 43 = J_iinc 2 1 46 := (F_X7_keep_0_56_r rfl).trans ((F_X7_keep_27_56_r rfl).trans (ftl_X7_keep_43))
theorem ft_X7_keep_46 : F_X7_keep 46 = J_goto 20 := (F_X7_keep_0_56_r rfl).trans ((F_X7_keep_27_56_r rfl).trans (ftl_X7_keep_46))
theorem ft_X7_keep_49 : F_X7_keep 49 = J_aload 0 50 := (F_X7_keep_0_56_r rfl).trans ((F_X7_keep_27_56_r rfl).trans (ftl_X7_keep_49))
theorem ft_X7_keep_50 : F_X7_keep 50 = J_getfield 7 10 53 := (F_X7_keep_0_56_r rfl).trans ((F_X7_keep_27_56_r rfl).trans (ftl_X7_keep_50))
theorem ft_X7_keep_53 : F_X7_keep 53 = J_iconst 39 55 := (F_X7_keep_0_56_r rfl).trans ((F_X7_keep_27_56_r rfl).trans (ftl_X7_keep_53))
theorem ft_X7_keep_55 : F_X7_keep 55 = J_iaload 56 := (F_X7_keep_0_56_r rfl).trans ((F_X7_keep_27_56_r rfl).trans (ftl_X7_keep_55))
theorem ft_X7_keep_56 : F_X7_keep 56 = J_ireturn 0 0 := (F_X7_keep_0_56_r rfl).trans ((F_X7_keep_27_56_r rfl).trans (ftl_X7_keep_56))
theorem lp_X7_keep {Q : jQ} {C : Nat → Nat → Int32} {z : Nat → Int64} {nb s : Nat} (hs : s < 2) (h : ∀ f : Nat → Int32, (∀ k, k < 40 → f (40 * s + k) = C 78 k) → (∀ m, (∀ k, k < 40 → m ≠ 40 * s + k) → f m = C 81 m) → Q (some (.int (C 78 39))) (memS 94 (hrow C 81 f) z)) :
    ∀ k j, j + k = 40 → ∀ f : Nat → Int32, (∀ i, i < j → f (40 * s + i) = C 78 i) → (∀ m, (∀ k, k < 40 → m ≠ 40 * s + k) → f m = C 81 m) → Rn Y_X7_keep none Q 20 [some (.ref 71), some (.int (nI s)), some (.int (nI j))] [] (memS 94 (hrow C 81 f) z) (nb, 0, 0) := by
  intro k
  induction k with
  | zero =>
    intro j hj f hf hg
    have hj : j = 40 := by omega
    subst hj
    have hq : (40 ≤ nI 40) = True := eq_true (by decide)
    refine jrun_first OK_X7_keep (C := [20]) 60 ?_
    simp -implicitDefEqProofs only [jr_0, jr_1, jr_2, j_iconst, j_lconst, j_iload0, j_aload0, j_istore0, j_astore0, j_iinc0, j_iload1, j_aload1, j_istore1, j_astore1, j_iinc1, j_iload2, j_aload2, j_istore2, j_astore2, j_iinc2, j_iload3, j_aload3, j_istore3, j_astore3, j_iinc3, j_iload4, j_aload4, j_istore4, j_astore4, j_iinc4, j_iload5, j_aload5, j_istore5, j_astore5, j_iinc5, j_iload6, j_aload6, j_istore6, j_astore6, j_iinc6, j_iload7, j_aload7, j_istore7, j_astore7, j_iinc7, j_iload8, j_aload8, j_istore8, j_astore8, j_iinc8, j_iadd, j_isub, j_imul, j_iand, j_ior, j_ixor, j_ishl, j_ishr, j_iushr, j_idiv, j_irem, j_ineg, j_ladd, j_lmul, j_land, j_lor, j_lcmp, j_lushr, j_lshl, j_i2l, j_l2i, j_dupI, j_dupR, j_popI, j_dup2, j_ifeq, j_iceq, j_ifne, j_icne, j_iflt, j_iclt, j_ifge, j_icge, j_ifgt, j_icgt, j_ifle, j_icle, j_goto, j_tsw, j_sw0, j_sw1, j_ireturn, j_zreturn, j_lreturn, j_return, j_getfield, j_putI, j_putJ, j_putR, j_iaload, j_baload, j_iastore, j_bastore, j_aaload, j_q, j_aastore, j_acopy, j_mmin, j_mmax, j_mabs, j_objinit, j_new, j_newI, j_newQ, j_sld, j_slen, j_callV0, j_callI0, j_callS0, j_callV1, j_callI1, j_callS1, j_callV2, j_callI2, j_callS2, j_callV3, j_callS3, j_callV4, j_callS4, j_callV5, j_callS5, j_pushS, j_pushN, j_sh0, j_sh1, j_sh2, j_sh3, j_sh4, Int32.reduceAdd, Int32.reduceMul, Int32.reduceSub, Int32.reduceLT, Int32.reduceLE, eq_self, i32_10, i32_01, ne_eq, hrow_s, hrow_n, ne10, ne100, ne1000, ne7, ne4, ne14, ne9973, or_true, true_or, or_false, false_or, not_true_eq_false, not_false_eq_true, false_implies, implies_true, and_true, forall_const, true_implies, jargs_n, jargs_r, jargs_i, List.cons_append, List.nil_append, true_and, Nat.reduceEqDiff, reduceIte, ft_X7_keep_0, ft_X7_keep_1, ft_X7_keep_2, ft_X7_keep_3, ft_X7_keep_6, ft_X7_keep_9, ft_X7_keep_10, ft_X7_keep_11, ft_X7_keep_12, ft_X7_keep_15, ft_X7_keep_16, ft_X7_keep_17, ft_X7_keep_18, ft_X7_keep_19, ft_X7_keep_20, ft_X7_keep_21, ft_X7_keep_23, ft_X7_keep_26, ft_X7_keep_27, ft_X7_keep_30, ft_X7_keep_32, ft_X7_keep_33, ft_X7_keep_34, ft_X7_keep_35, ft_X7_keep_36, ft_X7_keep_37, ft_X7_keep_40, ft_X7_keep_41, ft_X7_keep_42, ft_X7_keep_43, ft_X7_keep_46, ft_X7_keep_49, ft_X7_keep_50, ft_X7_keep_53, ft_X7_keep_55, ft_X7_keep_56, hq, fl_71_10, ar_39 jmr78]
    exact h f hf hg
  | succ k ih =>
    intro j hj f hf hg
    have hq : (40 ≤ nI j) = False := eq_false (nI_ge (b := 40) (by omega) (by decide))
    have v1 : vp_in (nI j) 40 := vp_in_nI (by omega) (by decide)
    have e1 : 40 * nI s + nI j = nI (40 * s + j) := by rw [show (40 : Int32) = nI 40 from rfl, nI_mul (by omega) (by omega) (by omega), nI_add]
    have v2 : vp_in (nI (40 * s + j)) 80 := vp_in_nI (by omega) (by decide)
    refine jrun_first OK_X7_keep (C := [20]) 60 ?_
    simp -implicitDefEqProofs only [jr_0, jr_1, jr_2, j_iconst, j_lconst, j_iload0, j_aload0, j_istore0, j_astore0, j_iinc0, j_iload1, j_aload1, j_istore1, j_astore1, j_iinc1, j_iload2, j_aload2, j_istore2, j_astore2, j_iinc2, j_iload3, j_aload3, j_istore3, j_astore3, j_iinc3, j_iload4, j_aload4, j_istore4, j_astore4, j_iinc4, j_iload5, j_aload5, j_istore5, j_astore5, j_iinc5, j_iload6, j_aload6, j_istore6, j_astore6, j_iinc6, j_iload7, j_aload7, j_istore7, j_astore7, j_iinc7, j_iload8, j_aload8, j_istore8, j_astore8, j_iinc8, j_iadd, j_isub, j_imul, j_iand, j_ior, j_ixor, j_ishl, j_ishr, j_iushr, j_idiv, j_irem, j_ineg, j_ladd, j_lmul, j_land, j_lor, j_lcmp, j_lushr, j_lshl, j_i2l, j_l2i, j_dupI, j_dupR, j_popI, j_dup2, j_ifeq, j_iceq, j_ifne, j_icne, j_iflt, j_iclt, j_ifge, j_icge, j_ifgt, j_icgt, j_ifle, j_icle, j_goto, j_tsw, j_sw0, j_sw1, j_ireturn, j_zreturn, j_lreturn, j_return, j_getfield, j_putI, j_putJ, j_putR, j_iaload, j_baload, j_iastore, j_bastore, j_aaload, j_q, j_aastore, j_acopy, j_mmin, j_mmax, j_mabs, j_objinit, j_new, j_newI, j_newQ, j_sld, j_slen, j_callV0, j_callI0, j_callS0, j_callV1, j_callI1, j_callS1, j_callV2, j_callI2, j_callS2, j_callV3, j_callS3, j_callV4, j_callS4, j_callV5, j_callS5, j_pushS, j_pushN, j_sh0, j_sh1, j_sh2, j_sh3, j_sh4, Int32.reduceAdd, Int32.reduceMul, Int32.reduceSub, Int32.reduceLT, Int32.reduceLE, eq_self, i32_10, i32_01, ne_eq, hrow_s, hrow_n, ne10, ne100, ne1000, ne7, ne4, ne14, ne9973, or_true, true_or, or_false, false_or, not_true_eq_false, not_false_eq_true, false_implies, implies_true, and_true, forall_const, true_implies, jargs_n, jargs_r, jargs_i, List.cons_append, List.nil_append, true_and, Nat.reduceEqDiff, reduceIte, ft_X7_keep_0, ft_X7_keep_1, ft_X7_keep_2, ft_X7_keep_3, ft_X7_keep_6, ft_X7_keep_9, ft_X7_keep_10, ft_X7_keep_11, ft_X7_keep_12, ft_X7_keep_15, ft_X7_keep_16, ft_X7_keep_17, ft_X7_keep_18, ft_X7_keep_19, ft_X7_keep_20, ft_X7_keep_21, ft_X7_keep_23, ft_X7_keep_26, ft_X7_keep_27, ft_X7_keep_30, ft_X7_keep_32, ft_X7_keep_33, ft_X7_keep_34, ft_X7_keep_35, ft_X7_keep_36, ft_X7_keep_37, ft_X7_keep_40, ft_X7_keep_41, ft_X7_keep_42, ft_X7_keep_43, ft_X7_keep_46, ft_X7_keep_49, ft_X7_keep_50, ft_X7_keep_53, ft_X7_keep_55, ft_X7_keep_56, hq, fl_71_15, fl_71_10, e1, al_78, as_81, v1, v2, nI_1, hrow_hrow, nI_clamp (show j < 2 ^ 31 by omega), nI_clamp (show 40 * s + j < 2 ^ 31 by omega)]
    refine ih (j + 1) (by omega) _ (fun i hi => ?_) fun i hi => ?_
    · by_cases q : i = j
      · subst q; rw [upd_eq]
      · rw [upd_ne (by omega)]; exact hf i (by omega)
    · rw [upd_ne (hi j (by omega))]
      exact hg i hi
theorem i32_o1 {i : Int32} (h : 0 ≤ i ∧ i ≤ 1) : ∃ j, j < 2 ∧ i = nI j := i32_rng (by decide) (Int32.not_lt.mpr h.1) fun q => absurd (Int32.le_trans q h.2) (by decide)
theorem ok_X7_keep : jMeets Y_X7_keep S_X7_keep := by
  intro nb vs mem Q h
  obtain ⟨C, z, i, rfl, rfl, hy, hn⟩ := h
  refine Ok.run OK_X7_keep [20] 60 [none] pn7 (Nat.le_of_ble_eq_true rfl) rfl ?_
  by_cases g : 0 ≤ i ∧ i ≤ 1
  · obtain ⟨j, hj, rfl⟩ := i32_o1 g
    have hy := hy j hj rfl
    have v1 : vp_in (nI j) 2 := vp_in_nI (by omega) (by decide)
    simp -implicitDefEqProofs only [jr_0, jr_1, jr_2, j_iconst, j_lconst, j_iload0, j_aload0, j_istore0, j_astore0, j_iinc0, j_iload1, j_aload1, j_istore1, j_astore1, j_iinc1, j_iload2, j_aload2, j_istore2, j_astore2, j_iinc2, j_iload3, j_aload3, j_istore3, j_astore3, j_iinc3, j_iload4, j_aload4, j_istore4, j_astore4, j_iinc4, j_iload5, j_aload5, j_istore5, j_astore5, j_iinc5, j_iload6, j_aload6, j_istore6, j_astore6, j_iinc6, j_iload7, j_aload7, j_istore7, j_astore7, j_iinc7, j_iload8, j_aload8, j_istore8, j_astore8, j_iinc8, j_iadd, j_isub, j_imul, j_iand, j_ior, j_ixor, j_ishl, j_ishr, j_iushr, j_idiv, j_irem, j_ineg, j_ladd, j_lmul, j_land, j_lor, j_lcmp, j_lushr, j_lshl, j_i2l, j_l2i, j_dupI, j_dupR, j_popI, j_dup2, j_ifeq, j_iceq, j_ifne, j_icne, j_iflt, j_iclt, j_ifge, j_icge, j_ifgt, j_icgt, j_ifle, j_icle, j_goto, j_tsw, j_sw0, j_sw1, j_ireturn, j_zreturn, j_lreturn, j_return, j_getfield, j_putI, j_putJ, j_putR, j_iaload, j_baload, j_iastore, j_bastore, j_aaload, j_q, j_aastore, j_acopy, j_mmin, j_mmax, j_mabs, j_objinit, j_new, j_newI, j_newQ, j_sld, j_slen, j_callV0, j_callI0, j_callS0, j_callV1, j_callI1, j_callS1, j_callV2, j_callI2, j_callS2, j_callV3, j_callS3, j_callV4, j_callS4, j_callV5, j_callS5, j_pushS, j_pushN, j_sh0, j_sh1, j_sh2, j_sh3, j_sh4, Int32.reduceAdd, Int32.reduceMul, Int32.reduceSub, Int32.reduceLT, Int32.reduceLE, eq_self, i32_10, i32_01, ne_eq, hrow_s, hrow_n, ne10, ne100, ne1000, ne7, ne4, ne14, ne9973, or_true, true_or, or_false, false_or, not_true_eq_false, not_false_eq_true, false_implies, implies_true, and_true, forall_const, true_implies, jargs_n, jargs_r, jargs_i, List.cons_append, List.nil_append, true_and, Nat.reduceEqDiff, reduceIte, ft_X7_keep_0, ft_X7_keep_1, ft_X7_keep_2, ft_X7_keep_3, ft_X7_keep_6, ft_X7_keep_9, ft_X7_keep_10, ft_X7_keep_11, ft_X7_keep_12, ft_X7_keep_15, ft_X7_keep_16, ft_X7_keep_17, ft_X7_keep_18, ft_X7_keep_19, ft_X7_keep_20, ft_X7_keep_21, ft_X7_keep_23, ft_X7_keep_26, ft_X7_keep_27, ft_X7_keep_30, ft_X7_keep_32, ft_X7_keep_33, ft_X7_keep_34, ft_X7_keep_35, ft_X7_keep_36, ft_X7_keep_37, ft_X7_keep_40, ft_X7_keep_41, ft_X7_keep_42, ft_X7_keep_43, ft_X7_keep_46, ft_X7_keep_49, ft_X7_keep_50, ft_X7_keep_53, ft_X7_keep_55, ft_X7_keep_56, s_X7_in, zb_t g, ne1_0, fl_71_16, as_82, v1, nI_clamp (show j < 2 ^ 31 by omega)]
    have := lp_X7_keep (nb := nb) (Q := Q) (z := z) (C := hrow C 82 (upd (C 82) j 1)) hj (fun f h1 h2 => hy f h1 h2) 40 0 (by omega) (C 81) (fun i hi => absurd hi (Nat.not_lt_zero i)) (fun _ _ => rfl)
    have e5 := hrow_self (C := hrow C 82 (upd (C 82) j 1)) (a := 81)
    rw [hrow_n (show 81 ≠ 82 by decide)] at e5
    rw [e5] at this
    exact this
  · simp -implicitDefEqProofs only [jr_0, jr_1, jr_2, j_iconst, j_lconst, j_iload0, j_aload0, j_istore0, j_astore0, j_iinc0, j_iload1, j_aload1, j_istore1, j_astore1, j_iinc1, j_iload2, j_aload2, j_istore2, j_astore2, j_iinc2, j_iload3, j_aload3, j_istore3, j_astore3, j_iinc3, j_iload4, j_aload4, j_istore4, j_astore4, j_iinc4, j_iload5, j_aload5, j_istore5, j_astore5, j_iinc5, j_iload6, j_aload6, j_istore6, j_astore6, j_iinc6, j_iload7, j_aload7, j_istore7, j_astore7, j_iinc7, j_iload8, j_aload8, j_istore8, j_astore8, j_iinc8, j_iadd, j_isub, j_imul, j_iand, j_ior, j_ixor, j_ishl, j_ishr, j_iushr, j_idiv, j_irem, j_ineg, j_ladd, j_lmul, j_land, j_lor, j_lcmp, j_lushr, j_lshl, j_i2l, j_l2i, j_dupI, j_dupR, j_popI, j_dup2, j_ifeq, j_iceq, j_ifne, j_icne, j_iflt, j_iclt, j_ifge, j_icge, j_ifgt, j_icgt, j_ifle, j_icle, j_goto, j_tsw, j_sw0, j_sw1, j_ireturn, j_zreturn, j_lreturn, j_return, j_getfield, j_putI, j_putJ, j_putR, j_iaload, j_baload, j_iastore, j_bastore, j_aaload, j_q, j_aastore, j_acopy, j_mmin, j_mmax, j_mabs, j_objinit, j_new, j_newI, j_newQ, j_sld, j_slen, j_callV0, j_callI0, j_callS0, j_callV1, j_callI1, j_callS1, j_callV2, j_callI2, j_callS2, j_callV3, j_callS3, j_callV4, j_callS4, j_callV5, j_callS5, j_pushS, j_pushN, j_sh0, j_sh1, j_sh2, j_sh3, j_sh4, Int32.reduceAdd, Int32.reduceMul, Int32.reduceSub, Int32.reduceLT, Int32.reduceLE, eq_self, i32_10, i32_01, ne_eq, hrow_s, hrow_n, ne10, ne100, ne1000, ne7, ne4, ne14, ne9973, or_true, true_or, or_false, false_or, not_true_eq_false, not_false_eq_true, false_implies, implies_true, and_true, forall_const, true_implies, jargs_n, jargs_r, jargs_i, List.cons_append, List.nil_append, true_and, Nat.reduceEqDiff, reduceIte, ft_X7_keep_0, ft_X7_keep_1, ft_X7_keep_2, ft_X7_keep_3, ft_X7_keep_6, ft_X7_keep_9, ft_X7_keep_10, ft_X7_keep_11, ft_X7_keep_12, ft_X7_keep_15, ft_X7_keep_16, ft_X7_keep_17, ft_X7_keep_18, ft_X7_keep_19, ft_X7_keep_20, ft_X7_keep_21, ft_X7_keep_23, ft_X7_keep_26, ft_X7_keep_27, ft_X7_keep_30, ft_X7_keep_32, ft_X7_keep_33, ft_X7_keep_34, ft_X7_keep_35, ft_X7_keep_36, ft_X7_keep_37, ft_X7_keep_40, ft_X7_keep_41, ft_X7_keep_42, ft_X7_keep_43, ft_X7_keep_46, ft_X7_keep_49, ft_X7_keep_50, ft_X7_keep_53, ft_X7_keep_55, ft_X7_keep_56, s_X7_in, zb_f g]
    exact hn g
theorem Rp.slot {C C' : Nat → Nat → Int32} {z : Nat → Int64} {B B' P K L nx ct sn : Nat} (h : Rp C z B P K L nx ct sn) (hr : ∀ a, a ≠ 0 → a ≠ 65 → a ≠ 68 → a ≠ 81 → a ≠ 82 → C' a = C a) (hk : KR C' P K B') (hB : B ≤ B') : Rp C' z B' P K L nx ct sn := by
  have r : ∀ a, (a != 0 && (a != 65 && (a != 68 && (a != 81 && a != 82)))) = true → C' a = C a := fun a ha => by
    simp at ha
    exact hr a ha.1 ha.2.1 ha.2.2.1 ha.2.2.2.1 ha.2.2.2.2
  have rr : ∀ j, j < 14 → C' (17 + 3 * j) = C (17 + 3 * j) := fun j hj => hr _ (by omega) (by omega) (by omega) (by omega) (by omega)
  have e71 : C' 71 = C 71 := r 71 rfl
  refine ⟨⟨h.hz, by rw [e71]; exact h.h15, by rw [e71]; exact h.h9⟩, ?_, ?_, ?_, hk, ?_⟩
  · refine (?_ : AK C' P K B).le hB
    exact ⟨h.ak.s.eq (r 3 rfl) (r 4 rfl) (r 5 rfl) (by rw [e71]) (by rw [e71]) (by rw [e71]) (r 73 rfl) (r 74 rfl) (r 75 rfl) (r 76 rfl) (r 77 rfl), by rw [r 78 rfl, r 9 rfl]; exact h.ak.2.1, by rw [r 12 rfl, r 79 rfl]; exact h.ak.2.2⟩
  · exact h.tr.eq (r 1 rfl) (r 2 rfl) (r 72 rfl) (by rw [e71])
  · exact (h.hr.eq (r 15 rfl) rr (r 80 rfl) (by rw [e71]) (by rw [e71])).le hB
  · exact h.or.eq (r 60 rfl) (r 61 rfl) (r 62 rfl) (r 63 rfl) (r 83 rfl) (r 84 rfl) (r 85 rfl) (by rw [e71])
theorem hasP_or {a : Int32} {i j : Nat} (hi : i < 2) (hj : j < 2) : hasP (a ||| 1 <<< (nI i &&& 31)) (nI j) = (hasP a (nI j) ∨ i = j) := by
  rw [hasP_bit (by omega), hasP_bit (by omega), Int32.toBitVec_or]
  have h : (i = 0 ∨ i = 1) ∧ (j = 0 ∨ j = 1) := by omega
  obtain ⟨rfl | rfl, rfl | rfl⟩ := h
  · have : ((1 : Int32) <<< (nI 0 &&& 31)).toBitVec.getLsbD 0 = true := by decide
    rw [BitVec.getLsbD_or, this]; simp
  · have : ((1 : Int32) <<< (nI 0 &&& 31)).toBitVec.getLsbD 1 = false := by decide
    rw [BitVec.getLsbD_or, this]; simp
  · have : ((1 : Int32) <<< (nI 1 &&& 31)).toBitVec.getLsbD 0 = false := by decide
    rw [BitVec.getLsbD_or, this]; simp
  · have : ((1 : Int32) <<< (nI 1 &&& 31)).toBitVec.getLsbD 1 = true := by decide
    rw [BitVec.getLsbD_or, this]; simp
theorem lt2_le1 {i : Int32} : (0 ≤ i ∧ i < 2) = (0 ≤ i ∧ i ≤ 1) := by
  refine propext ⟨fun q => ?_, fun q => ?_⟩
  · rcases i32_2 (Int32.not_lt.mpr q.1) (Int32.not_le.mpr q.2) with rfl | rfl <;> decide
  · obtain ⟨j, hj, rfl⟩ := i32_o1 q
    exact ⟨q.1, nI_lt (b := 2) hj (by decide)⟩
theorem co_keep (i : Int32) : Co S_X6_keep S_X7_keep [.ref 0, .int i] [.ref 71, .int i] := by
  intro n C z h hn nb Q hQ
  obtain ⟨P, K, L, nx, ct, sn, h⟩ := h
  have k := h.ak
  have kr := h.kr
  refine s_X6_keep k.iv.cut kr.1.1 kr.1.2 ?_
  unfold keepQ
  by_cases g : 0 ≤ i ∧ i ≤ 1
  · rw [lt2_le1, pick_t g]
    obtain ⟨j, hj, rfl⟩ := i32_o1 g
    rw [nI_clamp (by omega)]
    refine hQ _ _ _ fun nb Q hq => ⟨_, z, nI j, rfl, rfl, fun j' hj' e f h1 h2 => ?_, fun q => absurd g q⟩
    have : j = j' := nI_inj (by omega) (by omega) e
    subst this
    have hj2 : j = 0 ∨ j = 1 := by omega
    simp only [hrow_n (show 78 ≠ 0 by decide), hrow_n (show 78 ≠ 65 + 3 * j by omega), hrow_n (show 81 ≠ 0 by decide), hrow_n (show 81 ≠ 65 + 3 * j by omega), hrow_n (show 82 ≠ 0 by decide), hrow_n (show 82 ≠ 65 + 3 * j by omega), k.e] at h1 h2 ⊢
    refine hq _ _ ⟨P, K, L, nx, ct, sn, h.slot (fun a q1 q2 q3 q4 q5 => ?_) ?_ (by omega)⟩
    · rw [hrow_n q4, hrow_n q5, hrow_n q1, hrow_n (by omega)]
    · generalize hC : hrow (hrow (hrow (hrow C (65 + 3 * j) (C 9)) 0 (upd (C 0) 9 (C 0 9 ||| 1 <<< (nI j &&& 31)))) 82 (upd (C 82) j 1)) 81 f = C'
      have e0 : C' 0 9 = C 0 9 ||| 1 <<< (nI j &&& 31) := by rw [← hC]; rfl
      have e82 : C' 82 = upd (C 82) j 1 := by rw [← hC]; rfl
      have e81 : C' 81 = f := by rw [← hC]; rfl
      have eJ : C' (65 + 3 * j) = C 9 := by rw [← hC, hrow_n (by omega), hrow_n (by omega), hrow_n (by omega), hrow_s]
      have eO : ∀ a, a ≠ 0 → a ≠ 81 → a ≠ 82 → a ≠ 65 + 3 * j → C' a = C a := fun a q1 q2 q3 q4 => by rw [← hC, hrow_n q2, hrow_n q3, hrow_n q1, hrow_n q4]
      have ks : ∀ m, m < 2 → KS C P K (3960 * n) m → KS C' P K (3960 * (n + 1)) m := fun m hm q => by
        by_cases e : m = j
        · subst e
          refine Or.inr ⟨⟨?_, ?_⟩, ?_, fun x hx => ?_⟩
          · rw [e0, hasP_or hm hm]; exact Or.inr rfl
          · rw [e82, upd_eq]
          · rw [eJ]; exact k.iv.le (by omega)
          · rw [e81, eJ]; exact h1 x hx
        · unfold KS
          rw [e0, hasP_or hj hm, e82, upd_ne e, eO _ (by omega) (by omega) (by omega) (by omega), e81]
          rcases q with q | ⟨q1, q2, q3⟩
          · exact Or.inl ⟨fun w => by rcases w with w | w; exact q.1 w; exact e w.symm, q.2⟩
          · refine Or.inr ⟨⟨Or.inl q1.1, q1.2⟩, q2.le (by omega), fun x hx => ?_⟩
            rw [h2 _ (fun k' hk' => by omega)]
            exact q3 x hx
      refine ⟨?_, ks 0 (by omega) kr.2.1, ks 1 (by omega) kr.2.2⟩
      rcases hj2 with e | e
      · subst e
        exact ⟨by rw [show C' 65 = C 9 from eJ]; exact k.iv.cut, by rw [eO 68 (by decide) (by decide) (by decide) (by decide)]; exact kr.1.2⟩
      · subst e
        exact ⟨by rw [eO 65 (by decide) (by decide) (by decide) (by decide)]; exact kr.1.1, by rw [show C' 68 = C 9 from eJ]; exact k.iv.cut⟩
  · rw [lt2_le1, pick_f g]
    refine hQ _ _ _ fun nb Q hq => ⟨C, z, i, rfl, rfl, fun j hj e => ?_, fun _ => hq C z (h.rel k.rf h.hz)⟩
    refine absurd ?_ g
    rw [e]
    exact ⟨nI_le (a := 0) (by omega) (by omega), nI_le (b := 1) (by omega) (by omega)⟩
/-! again -/
def S_X7_again : jSp := fun _ vs mem Q => ∃ C z, ∃ i : Int32, vs = [.ref 71, .int i] ∧ mem = memS 94 C z ∧ Cut (C 78) ∧ (∀ j, j < 2 → i = nI j → C 82 j = 0 ∨ C 82 j = 1) ∧ (∀ j, j < 2 → i = nI j → C 82 j = 1 → ∀ ρ, Cut ρ → (∀ k, k < 40 → ρ k = C 81 (40 * j + k)) → Q (some (.int (ρ 39))) (memS 94 (hrow (hrow C 78 ρ) 71 (upd (C 71) 13 0)) z)) ∧ (∀ j, j < 2 → i = nI j → C 82 j = 0 → Q (some (.int (-3))) (memS 94 C z)) ∧ (¬ (0 ≤ i ∧ i ≤ 1) → Q (some (.int (-1))) (memS 94 C z))
def F_X7_again_0 : Nat → jT := fun pc => (bif Nat.blt pc 9 then (bif Nat.blt pc 2 then (bif Nat.blt pc 1 then (bif Nat.beq pc 0 then J_iload 1 1 else jbad) else (bif Nat.beq pc 1 then J_iconst 0 2 else jbad)) else (bif Nat.blt pc 3 then (bif Nat.beq pc 2 then J_iconst 1 3 else jbad) else (bif Nat.blt pc 6 then (bif Nat.beq pc 3 then J_callS S_X7_in 3 6 else jbad) else (bif Nat.beq pc 6 then J_ifne 11 9 else jbad)))) else (bif Nat.blt pc 11 then (bif Nat.blt pc 10 then (bif Nat.beq pc 9 then J_iconst (-1) 10 else jbad) else (bif Nat.beq pc 10 then J_ireturn 0 0 else jbad)) else (bif Nat.blt pc 12 then (bif Nat.beq pc 11 then J_aload 0 12 else jbad) else (bif Nat.blt pc 15 then (bif Nat.beq pc 12 then J_getfield 7 16 15 else jbad) else (bif Nat.beq pc 15 then J_iload 1 16 else jbad)))))
theorem ftl_X7_again_0 : F_X7_again_0 0 = J_iload 1 1 := rfl
theorem ftl_X7_again_1 : F_X7_again_0 1 = J_iconst 0 2 := rfl
theorem ftl_X7_again_2 : F_X7_again_0 2 = J_iconst 1 3 := rfl
theorem ftl_X7_again_3 : F_X7_again_0 3 = J_callS S_X7_in 3 6 := rfl
theorem ftl_X7_again_6 : F_X7_again_0 6 = J_ifne 11 9 := rfl
theorem ftl_X7_again_9 : F_X7_again_0 9 = J_iconst (-1) 10 := rfl
theorem ftl_X7_again_10 : F_X7_again_0 10 = J_ireturn 0 0 := rfl
theorem ftl_X7_again_11 : F_X7_again_0 11 = J_aload 0 12 := rfl
theorem ftl_X7_again_12 : F_X7_again_0 12 = J_getfield 7 16 15 := rfl
theorem ftl_X7_again_15 : F_X7_again_0 15 = J_iload 1 16 := rfl
theorem F_X7_again_0_ok : jOK Y_X7_again none (F_X7_again_0) := (jOK_node (jOK_node (jOK_node (jOK_leaf (sn_iload_n dX7_again_0 rfl rfl)) (jOK_leaf (sn_iconst dX7_again_1 rfl rfl))) (jOK_node (jOK_leaf (sn_iconst dX7_again_2 rfl rfl)) (jOK_node (jOK_leaf (sn_callS (Y' := Y_X7_in) ok_X7_in dX7_again_3 rfl rfl tw_737 tw_738 tw_8 jc_X7_in ⟨by decide, by decide, rfl⟩ ⟨by decide, by decide⟩)) (jOK_leaf (sn_ifne dX7_again_6 rfl rfl))))) (jOK_node (jOK_node (jOK_leaf (sn_iconst dX7_again_9 rfl rfl)) (jOK_leaf (sn_ireturn dX7_again_10 rfl rfl))) (jOK_node (jOK_leaf (sn_aload_n dX7_again_11 rfl rfl)) (jOK_node (jOK_leaf (sn_getfield dX7_again_12 rfl rfl (by decide) tw_630 jin7)) (jOK_leaf (sn_iload_n dX7_again_15 rfl rfl))))))
def F_X7_again_16 : Nat → jT := fun pc => (bif Nat.blt pc 24 then (bif Nat.blt pc 20 then (bif Nat.blt pc 17 then (bif Nat.beq pc 16 then J_baload 17 else jbad) else (bif Nat.beq pc 17 then J_ifne 23 20 else jbad)) else (bif Nat.blt pc 22 then (bif Nat.beq pc 20 then J_iconst (-3) 22 else jbad) else (bif Nat.blt pc 23 then (bif Nat.beq pc 22 then J_ireturn 0 0 else jbad) else (bif Nat.beq pc 23 then J_iconst 0 24 else jbad)))) else (bif Nat.blt pc 26 then (bif Nat.blt pc 25 then (bif Nat.beq pc 24 then J_istore 2 25 else jbad) else (bif Nat.beq pc 25 then J_iload 2 26 else jbad)) else (bif Nat.blt pc 28 then (bif Nat.beq pc 26 then J_iconst 40 28 else jbad) else (bif Nat.blt pc 31 then (bif Nat.beq pc 28 then J_icge 54 31 else jbad) else (bif Nat.beq pc 31 then J_aload 0 32 else jbad)))))
theorem ftl_X7_again_16 : F_X7_again_16 16 = J_baload 17 := rfl
theorem ftl_X7_again_17 : F_X7_again_16 17 = J_ifne 23 20 := rfl
theorem ftl_X7_again_20 : F_X7_again_16 20 = J_iconst (-3) 22 := rfl
theorem ftl_X7_again_22 : F_X7_again_16 22 = J_ireturn 0 0 := rfl
theorem ftl_X7_again_23 : F_X7_again_16 23 = J_iconst 0 24 := rfl
theorem ftl_X7_again_24 : F_X7_again_16 24 = J_istore 2 25 := rfl
theorem ftl_X7_again_25 : F_X7_again_16 25 = J_iload 2 26 := rfl
theorem ftl_X7_again_26 : F_X7_again_16 26 = J_iconst 40 28 := rfl
theorem ftl_X7_again_28 : F_X7_again_16 28 = J_icge 54 31 := rfl
theorem ftl_X7_again_31 : F_X7_again_16 31 = J_aload 0 32 := rfl
theorem F_X7_again_16_ok : jOK Y_X7_again none (F_X7_again_16) := (jOK_node (jOK_node (jOK_node (jOK_leaf (sn_baload dX7_again_16 rfl)) (jOK_leaf (sn_ifne dX7_again_17 rfl rfl))) (jOK_node (jOK_leaf (sn_bipush dX7_again_20 rfl rfl)) (jOK_node (jOK_leaf (sn_ireturn dX7_again_22 rfl rfl)) (jOK_leaf (sn_iconst dX7_again_23 rfl rfl))))) (jOK_node (jOK_node (jOK_leaf (sn_istore_n dX7_again_24 rfl rfl (by decide))) (jOK_leaf (sn_iload_n dX7_again_25 rfl rfl))) (jOK_node (jOK_leaf (sn_bipush dX7_again_26 rfl rfl)) (jOK_node (jOK_leaf (sn_icge dX7_again_28 rfl rfl)) (jOK_leaf (sn_aload_n dX7_again_31 rfl rfl))))))
def F_X7_again_0_31 : Nat → jT := fun pc => bif Nat.blt pc 16 then F_X7_again_0 pc else F_X7_again_16 pc
theorem F_X7_again_0_31_l {pc : Nat} (h : Nat.blt pc 16 = true) : F_X7_again_0_31 pc = F_X7_again_0 pc := by unfold F_X7_again_0_31; rw [h]; rfl
theorem F_X7_again_0_31_r {pc : Nat} (h : Nat.blt pc 16 = false) : F_X7_again_0_31 pc = F_X7_again_16 pc := by unfold F_X7_again_0_31; rw [h]; rfl
theorem F_X7_again_0_31_ok : jOK Y_X7_again none (F_X7_again_0_31) := jOK_node (F_X7_again_0_ok) (F_X7_again_16_ok)
def F_X7_again_32 : Nat → jT := fun pc => (bif Nat.blt pc 42 then (bif Nat.blt pc 36 then (bif Nat.blt pc 35 then (bif Nat.beq pc 32 then J_getfield 7 10 35 else jbad) else (bif Nat.beq pc 35 then J_iload 2 36 else jbad)) else (bif Nat.blt pc 37 then (bif Nat.beq pc 36 then J_aload 0 37 else jbad) else (bif Nat.blt pc 40 then (bif Nat.beq pc 37 then J_getfield 7 15 40 else jbad) else (bif Nat.beq pc 40 then J_iconst 40 42 else jbad)))) else (bif Nat.blt pc 44 then (bif Nat.blt pc 43 then (bif Nat.beq pc 42 then J_iload 1 43 else jbad) else (bif Nat.beq pc 43 then J_imul 44 else jbad)) else (bif Nat.blt pc 45 then (bif Nat.beq pc 44 then J_iload 2 45 else jbad) else (bif Nat.blt pc 46 then (bif Nat.beq pc 45 then J_iadd 46 else jbad) else (bif Nat.beq pc 46 then J_iaload 47 else jbad)))))
theorem ftl_X7_again_32 : F_X7_again_32 32 = J_getfield 7 10 35 := rfl
theorem ftl_X7_again_35 : F_X7_again_32 35 = J_iload 2 36 := rfl
theorem ftl_X7_again_36 : F_X7_again_32 36 = J_aload 0 37 := rfl
theorem ftl_X7_again_37 : F_X7_again_32 37 = J_getfield 7 15 40 := rfl
theorem ftl_X7_again_40 : F_X7_again_32 40 = J_iconst 40 42 := rfl
theorem ftl_X7_again_42 : F_X7_again_32 42 = J_iload 1 43 := rfl
theorem ftl_X7_again_43 : F_X7_again_32 43 = J_imul 44 := rfl
theorem ftl_X7_again_44 : F_X7_again_32 44 = J_iload 2 45 := rfl
theorem ftl_X7_again_45 : F_X7_again_32 45 = J_iadd 46 := rfl
theorem ftl_X7_again_46 : F_X7_again_32 46 = J_iaload 47 := rfl
theorem F_X7_again_32_ok : jOK Y_X7_again none (F_X7_again_32) := (jOK_node (jOK_node (jOK_node (jOK_leaf (sn_getfield dX7_again_32 rfl rfl (by decide) tw_624 jin7)) (jOK_leaf (sn_iload_n dX7_again_35 rfl rfl))) (jOK_node (jOK_leaf (sn_aload_n dX7_again_36 rfl rfl)) (jOK_node (jOK_leaf (sn_getfield dX7_again_37 rfl rfl (by decide) tw_629 jin7)) (jOK_leaf (sn_bipush dX7_again_40 rfl rfl))))) (jOK_node (jOK_node (jOK_leaf (sn_iload_n dX7_again_42 rfl rfl)) (jOK_leaf (sn_imul dX7_again_43 rfl))) (jOK_node (jOK_leaf (sn_iload_n dX7_again_44 rfl rfl)) (jOK_node (jOK_leaf (sn_iadd dX7_again_45 rfl)) (jOK_leaf (sn_iaload dX7_again_46 rfl))))))
def F_X7_again_47 : Nat → jT := fun pc => (bif Nat.blt pc 56 then (bif Nat.blt pc 51 then (bif Nat.blt pc 48 then (bif Nat.beq pc 47 then J_iastore 48 else jbad) else (bif Nat.beq pc 48 then J_iinc 2 1 51 else jbad)) else (bif Nat.blt pc 54 then (bif Nat.beq pc 51 then J_goto 25 else jbad) else (bif Nat.blt pc 55 then (bif Nat.beq pc 54 then J_aload 0 55 else jbad) else (bif Nat.beq pc 55 then J_iconst 0 56 else jbad)))) else (bif Nat.blt pc 63 then (bif Nat.blt pc 59 then (bif Nat.beq pc 56 then J_putI 7 13 59 else jbad) else (bif Nat.blt pc 60 then (bif Nat.beq pc 59 then J_aload 0 60 else jbad) else (bif Nat.beq pc 60 then J_getfield 7 10 63 else jbad))) else (bif Nat.blt pc 65 then (bif Nat.beq pc 63 then J_iconst 39 65 else jbad) else (bif Nat.blt pc 66 then (bif Nat.beq pc 65 then J_iaload 66 else jbad) else (bif Nat.beq pc 66 then J_ireturn 0 0 else jbad)))))
theorem ftl_X7_again_47 : F_X7_again_47 47 = J_iastore 48 := rfl
theorem ftl_X7_again_48 : F_X7_again_47 48 = J_iinc 2 1 51 := rfl
theorem ftl_X7_again_51 : F_X7_again_47 51 = J_goto 25 := rfl
theorem ftl_X7_again_54 : F_X7_again_47 54 = J_aload 0 55 := rfl
theorem ftl_X7_again_55 : F_X7_again_47 55 = J_iconst 0 56 := rfl
theorem ftl_X7_again_56 : F_X7_again_47 56 = J_putI 7 13 59 := rfl
theorem ftl_X7_again_59 : F_X7_again_47 59 = J_aload 0 60 := rfl
theorem ftl_X7_again_60 : F_X7_again_47 60 = J_getfield 7 10 63 := rfl
theorem ftl_X7_again_63 : F_X7_again_47 63 = J_iconst 39 65 := rfl
theorem ftl_X7_again_65 : F_X7_again_47 65 = J_iaload 66 := rfl
theorem ftl_X7_again_66 : F_X7_again_47 66 = J_ireturn 0 0 := rfl
theorem F_X7_again_47_ok : jOK Y_X7_again none (F_X7_again_47) := (jOK_node (jOK_node (jOK_node (jOK_leaf (sn_iastore dX7_again_47 rfl)) (jOK_leaf (sn_iinc dX7_again_48 rfl rfl (by decide)))) (jOK_node (jOK_leaf (sn_goto dX7_again_51 rfl)) (jOK_node (jOK_leaf (sn_aload_n dX7_again_54 rfl rfl)) (jOK_leaf (sn_iconst dX7_again_55 rfl rfl))))) (jOK_node (jOK_node (jOK_leaf (sn_putI tyX7 dX7_again_56 rfl rfl (by decide) tw_627 jin7 tyX7_ok nmX7 rfl rfl)) (jOK_node (jOK_leaf (sn_aload_n dX7_again_59 rfl rfl)) (jOK_leaf (sn_getfield dX7_again_60 rfl rfl (by decide) tw_624 jin7)))) (jOK_node (jOK_leaf (sn_bipush dX7_again_63 rfl rfl)) (jOK_node (jOK_leaf (sn_iaload dX7_again_65 rfl)) (jOK_leaf (sn_ireturn dX7_again_66 rfl rfl))))))
def F_X7_again_32_66 : Nat → jT := fun pc => bif Nat.blt pc 47 then F_X7_again_32 pc else F_X7_again_47 pc
theorem F_X7_again_32_66_l {pc : Nat} (h : Nat.blt pc 47 = true) : F_X7_again_32_66 pc = F_X7_again_32 pc := by unfold F_X7_again_32_66; rw [h]; rfl
theorem F_X7_again_32_66_r {pc : Nat} (h : Nat.blt pc 47 = false) : F_X7_again_32_66 pc = F_X7_again_47 pc := by unfold F_X7_again_32_66; rw [h]; rfl
theorem F_X7_again_32_66_ok : jOK Y_X7_again none (F_X7_again_32_66) := jOK_node (F_X7_again_32_ok) (F_X7_again_47_ok)
def F_X7_again_0_66 : Nat → jT := fun pc => bif Nat.blt pc 32 then F_X7_again_0_31 pc else F_X7_again_32_66 pc
theorem F_X7_again_0_66_l {pc : Nat} (h : Nat.blt pc 32 = true) : F_X7_again_0_66 pc = F_X7_again_0_31 pc := by unfold F_X7_again_0_66; rw [h]; rfl
theorem F_X7_again_0_66_r {pc : Nat} (h : Nat.blt pc 32 = false) : F_X7_again_0_66 pc = F_X7_again_32_66 pc := by unfold F_X7_again_0_66; rw [h]; rfl
theorem F_X7_again_0_66_ok : jOK Y_X7_again none (F_X7_again_0_66) := jOK_node (F_X7_again_0_31_ok) (F_X7_again_32_66_ok)
def F_X7_again : Nat → jT := F_X7_again_0_66
theorem OK_X7_again : jOK Y_X7_again none (F_X7_again) := F_X7_again_0_66_ok
theorem ft_X7_again_0 : F_X7_again 0 = J_iload 1 1 := (F_X7_again_0_66_l rfl).trans ((F_X7_again_0_31_l rfl).trans (ftl_X7_again_0))
theorem ft_X7_again_1 : F_X7_again 1 = J_iconst 0 2 := (F_X7_again_0_66_l rfl).trans ((F_X7_again_0_31_l rfl).trans (ftl_X7_again_1))
theorem ft_X7_again_2 : F_X7_again 2 = J_iconst 1 3 := (F_X7_again_0_66_l rfl).trans ((F_X7_again_0_31_l rfl).trans (ftl_X7_again_2))
theorem ft_X7_again_3 : F_X7_again 3 = J_callS S_X7_in 3 6 := (F_X7_again_0_66_l rfl).trans ((F_X7_again_0_31_l rfl).trans (ftl_X7_again_3))
theorem ft_X7_again_6 : F_X7_again 6 = J_ifne 11 9 := (F_X7_again_0_66_l rfl).trans ((F_X7_again_0_31_l rfl).trans (ftl_X7_again_6))
theorem ft_X7_again_9 : F_X7_again 9 = J_iconst (-1) 10 := (F_X7_again_0_66_l rfl).trans ((F_X7_again_0_31_l rfl).trans (ftl_X7_again_9))
theorem ft_X7_again_10 : F_X7_again 10 = J_ireturn 0 0 := (F_X7_again_0_66_l rfl).trans ((F_X7_again_0_31_l rfl).trans (ftl_X7_again_10))
theorem ft_X7_again_11 : F_X7_again 11 = J_aload 0 12 := (F_X7_again_0_66_l rfl).trans ((F_X7_again_0_31_l rfl).trans (ftl_X7_again_11))
theorem ft_X7_again_12 : F_X7_again 12 = J_getfield 7 16 15 := (F_X7_again_0_66_l rfl).trans ((F_X7_again_0_31_l rfl).trans (ftl_X7_again_12))
theorem ft_X7_again_15 : F_X7_again 15 = J_iload 1 16 := (F_X7_again_0_66_l rfl).trans ((F_X7_again_0_31_l rfl).trans (ftl_X7_again_15))
theorem ft_X7_again_16 : F_X7_again 16 = J_baload 17 := (F_X7_again_0_66_l rfl).trans ((F_X7_again_0_31_r rfl).trans (ftl_X7_again_16))
theorem ft_X7_again_17 : F_X7_again 17 = J_ifne 23 20 := (F_X7_again_0_66_l rfl).trans ((F_X7_again_0_31_r rfl).trans (ftl_X7_again_17))
theorem ft_X7_again_20 : F_X7_again 20 = J_iconst (-3) 22 := (F_X7_again_0_66_l rfl).trans ((F_X7_again_0_31_r rfl).trans (ftl_X7_again_20))
theorem ft_X7_again_22 : F_X7_again 22 = J_ireturn 0 0 := (F_X7_again_0_66_l rfl).trans ((F_X7_again_0_31_r rfl).trans (ftl_X7_again_22))
theorem ft_X7_again_23 : F_X7_again 23 = J_iconst 0 24 := (F_X7_again_0_66_l rfl).trans ((F_X7_again_0_31_r rfl).trans (ftl_X7_again_23))
theorem ft_X7_again_24 : F_X7_again 24 = J_istore 2 25 := (F_X7_again_0_66_l rfl).trans ((F_X7_again_0_31_r rfl).trans (ftl_X7_again_24))
theorem ft_X7_again_25 : F_X7_again 25 = J_iload 2 26 := (F_X7_again_0_66_l rfl).trans ((F_X7_again_0_31_r rfl).trans (ftl_X7_again_25))
theorem ft_X7_again_26 : F_X7_again 26 = J_iconst 40 28 := (F_X7_again_0_66_l rfl).trans ((F_X7_again_0_31_r rfl).trans (ftl_X7_again_26))
theorem ft_X7_again_28 : F_X7_again 28 = J_icge 54 31 := (F_X7_again_0_66_l rfl).trans ((F_X7_again_0_31_r rfl).trans (ftl_X7_again_28))
theorem ft_X7_again_31 : F_X7_again 31 = J_aload 0 32 := (F_X7_again_0_66_l rfl).trans ((F_X7_again_0_31_r rfl).trans (ftl_X7_again_31))
theorem ft_X7_again_32 : F_X7_again 32 = J_getfield 7 10 35 := (F_X7_again_0_66_r rfl).trans ((F_X7_again_32_66_l rfl).trans (ftl_X7_again_32))
theorem ft_X7_again_35 : F_X7_again 35 = J_iload 2 36 := (F_X7_again_0_66_r rfl).trans ((F_X7_again_32_66_l rfl).trans (ftl_X7_again_35))
theorem ft_X7_again_36 : F_X7_again 36 = J_aload 0 37 := (F_X7_again_0_66_r rfl).trans ((F_X7_again_32_66_l rfl).trans (ftl_X7_again_36))
theorem ft_X7_again_37 : F_X7_again 37 = J_getfield 7 15 40 := (F_X7_again_0_66_r rfl).trans ((F_X7_again_32_66_l rfl).trans (ftl_X7_again_37))
theorem ft_X7_again_40 : F_X7_again 40 = J_iconst 40 42 := (F_X7_again_0_66_r rfl).trans ((F_X7_again_32_66_l rfl).trans (ftl_X7_again_40))
theorem ft_X7_again_42 : F_X7_again 42 = J_iload 1 43 := (F_X7_again_0_66_r rfl).trans ((F_X7_again_32_66_l rfl).trans (ftl_X7_again_42))
theorem ft_X7_again_43 : F_X7_again 43 = J_imul 44 := (F_X7_again_0_66_r rfl).trans ((F_X7_again_32_66_l rfl).trans (ftl_X7_again_43))
theorem ft_X7_again_44 : F_X7_again 44 = J_iload 2 45 := (F_X7_again_0_66_r rfl).trans ((F_X7_again_32_66_l rfl).trans (ftl_X7_again_44))
theorem ft_X7_again_45 : F_X7_again 45 = J_iadd 46 := (F_X7_again_0_66_r rfl).trans ((F_X7_again_32_66_l rfl).trans (ftl_X7_again_45))
theorem ft_X7_again_46 : F_X7_again 46 = J_iaload 47 := (F_X7_again_0_66_r rfl).trans ((F_X7_again_32_66_l rfl).trans (ftl_X7_again_46))
theorem ft_X7_again_47 : F_X7_again 47 = J_iastore 48 := (F_X7_again_0_66_r rfl).trans ((F_X7_again_32_66_r rfl).trans (ftl_X7_again_47))
theorem ft_X7_again_48 : F_X7_again 48 = J_iinc 2 1 51 := (F_X7_again_0_66_r rfl).trans ((F_X7_again_32_66_r rfl).trans (ftl_X7_again_48))
theorem ft_X7_again_51 : F_X7_again 51 = J_goto 25 := (F_X7_again_0_66_r rfl).trans ((F_X7_again_32_66_r rfl).trans (ftl_X7_again_51))
theorem ft_X7_again_54 : F_X7_again 54 = J_aload 0 55 := (F_X7_again_0_66_r rfl).trans ((F_X7_again_32_66_r rfl).trans (ftl_X7_again_54))
theorem ft_X7_again_55 : F_X7_again 55 = J_iconst 0 56 := (F_X7_again_0_66_r rfl).trans ((F_X7_again_32_66_r rfl).trans (ftl_X7_again_55))
theorem ft_X7_again_56 : F_X7_again 56 = J_putI 7 13 59 := (F_X7_again_0_66_r rfl).trans ((F_X7_again_32_66_r rfl).trans (ftl_X7_again_56))
theorem ft_X7_again_59 : F_X7_again 59 = J_aload 0 60 := (F_X7_again_0_66_r rfl).trans ((F_X7_again_32_66_r rfl).trans (ftl_X7_again_59))
theorem ft_X7_again_60 : F_X7_again 60 = J_getfield 7 10 63 := (F_X7_again_0_66_r rfl).trans ((F_X7_again_32_66_r rfl).trans (ftl_X7_again_60))
theorem ft_X7_again_63 : F_X7_again 63 = J_iconst 39 65 := (F_X7_again_0_66_r rfl).trans ((F_X7_again_32_66_r rfl).trans (ftl_X7_again_63))
theorem ft_X7_again_65 : F_X7_again 65 = J_iaload 66 := (F_X7_again_0_66_r rfl).trans ((F_X7_again_32_66_r rfl).trans (ftl_X7_again_65))
theorem ft_X7_again_66 : F_X7_again 66 = J_ireturn 0 0 := (F_X7_again_0_66_r rfl).trans ((F_X7_again_32_66_r rfl).trans (ftl_X7_again_66))
theorem lp_X7_again {Q : jQ} {C : Nat → Nat → Int32} {z : Nat → Int64} {nb s : Nat} (hs : s < 2) (h : ∀ ρ, Cut ρ → (∀ k, k < 40 → ρ k = C 81 (40 * s + k)) → Q (some (.int (ρ 39))) (memS 94 (hrow (hrow C 78 ρ) 71 (upd (C 71) 13 0)) z)) :
    ∀ k j, j + k = 40 → ∀ f : Nat → Int32, Cut f → (∀ i, i < j → f i = C 81 (40 * s + i)) → Rn Y_X7_again none Q 25 [some (.ref 71), some (.int (nI s)), some (.int (nI j))] [] (memS 94 (hrow C 78 f) z) (nb, 0, 0) := by
  intro k
  induction k with
  | zero =>
    intro j hj f cf hf
    have hj : j = 40 := by omega
    subst hj
    have hq : (40 ≤ nI 40) = True := eq_true (by decide)
    refine jrun_first OK_X7_again (C := [25]) 60 ?_
    simp -implicitDefEqProofs only [jr_0, jr_1, jr_2, j_iconst, j_lconst, j_iload0, j_aload0, j_istore0, j_astore0, j_iinc0, j_iload1, j_aload1, j_istore1, j_astore1, j_iinc1, j_iload2, j_aload2, j_istore2, j_astore2, j_iinc2, j_iload3, j_aload3, j_istore3, j_astore3, j_iinc3, j_iload4, j_aload4, j_istore4, j_astore4, j_iinc4, j_iload5, j_aload5, j_istore5, j_astore5, j_iinc5, j_iload6, j_aload6, j_istore6, j_astore6, j_iinc6, j_iload7, j_aload7, j_istore7, j_astore7, j_iinc7, j_iload8, j_aload8, j_istore8, j_astore8, j_iinc8, j_iadd, j_isub, j_imul, j_iand, j_ior, j_ixor, j_ishl, j_ishr, j_iushr, j_idiv, j_irem, j_ineg, j_ladd, j_lmul, j_land, j_lor, j_lcmp, j_lushr, j_lshl, j_i2l, j_l2i, j_dupI, j_dupR, j_popI, j_dup2, j_ifeq, j_iceq, j_ifne, j_icne, j_iflt, j_iclt, j_ifge, j_icge, j_ifgt, j_icgt, j_ifle, j_icle, j_goto, j_tsw, j_sw0, j_sw1, j_ireturn, j_zreturn, j_lreturn, j_return, j_getfield, j_putI, j_putJ, j_putR, j_iaload, j_baload, j_iastore, j_bastore, j_aaload, j_q, j_aastore, j_acopy, j_mmin, j_mmax, j_mabs, j_objinit, j_new, j_newI, j_newQ, j_sld, j_slen, j_callV0, j_callI0, j_callS0, j_callV1, j_callI1, j_callS1, j_callV2, j_callI2, j_callS2, j_callV3, j_callS3, j_callV4, j_callS4, j_callV5, j_callS5, j_pushS, j_pushN, j_sh0, j_sh1, j_sh2, j_sh3, j_sh4, Int32.reduceAdd, Int32.reduceMul, Int32.reduceSub, Int32.reduceLT, Int32.reduceLE, eq_self, i32_10, i32_01, ne_eq, hrow_s, hrow_n, ne10, ne100, ne1000, ne7, ne4, ne14, ne9973, or_true, true_or, or_false, false_or, not_true_eq_false, not_false_eq_true, false_implies, implies_true, and_true, forall_const, true_implies, jargs_n, jargs_r, jargs_i, List.cons_append, List.nil_append, true_and, Nat.reduceEqDiff, reduceIte, ft_X7_again_0, ft_X7_again_1, ft_X7_again_2, ft_X7_again_3, ft_X7_again_6, ft_X7_again_9, ft_X7_again_10, ft_X7_again_11, ft_X7_again_12, ft_X7_again_15, ft_X7_again_16, ft_X7_again_17, ft_X7_again_20, ft_X7_again_22, ft_X7_again_23, ft_X7_again_24, ft_X7_again_25, ft_X7_again_26, ft_X7_again_28, ft_X7_again_31, ft_X7_again_32, ft_X7_again_35, ft_X7_again_36, ft_X7_again_37, ft_X7_again_40, ft_X7_again_42, ft_X7_again_43, ft_X7_again_44, ft_X7_again_45, ft_X7_again_46, ft_X7_again_47, ft_X7_again_48, ft_X7_again_51, ft_X7_again_54, ft_X7_again_55, ft_X7_again_56, ft_X7_again_59, ft_X7_again_60, ft_X7_again_63, ft_X7_again_65, ft_X7_again_66, hq, fl_71_10, fp_71_13, ar_39 jmr78]
    exact h f cf hf
  | succ k ih =>
    intro j hj f cf hf
    have hq : (40 ≤ nI j) = False := eq_false (nI_ge (b := 40) (by omega) (by decide))
    have v1 : vp_in (nI j) 40 := vp_in_nI (by omega) (by decide)
    have e1 : 40 * nI s + nI j = nI (40 * s + j) := by rw [show (40 : Int32) = nI 40 from rfl, nI_mul (by omega) (by omega) (by omega), nI_add]
    have v2 : vp_in (nI (40 * s + j)) 80 := vp_in_nI (by omega) (by decide)
    refine jrun_first OK_X7_again (C := [25]) 60 ?_
    simp -implicitDefEqProofs only [jr_0, jr_1, jr_2, j_iconst, j_lconst, j_iload0, j_aload0, j_istore0, j_astore0, j_iinc0, j_iload1, j_aload1, j_istore1, j_astore1, j_iinc1, j_iload2, j_aload2, j_istore2, j_astore2, j_iinc2, j_iload3, j_aload3, j_istore3, j_astore3, j_iinc3, j_iload4, j_aload4, j_istore4, j_astore4, j_iinc4, j_iload5, j_aload5, j_istore5, j_astore5, j_iinc5, j_iload6, j_aload6, j_istore6, j_astore6, j_iinc6, j_iload7, j_aload7, j_istore7, j_astore7, j_iinc7, j_iload8, j_aload8, j_istore8, j_astore8, j_iinc8, j_iadd, j_isub, j_imul, j_iand, j_ior, j_ixor, j_ishl, j_ishr, j_iushr, j_idiv, j_irem, j_ineg, j_ladd, j_lmul, j_land, j_lor, j_lcmp, j_lushr, j_lshl, j_i2l, j_l2i, j_dupI, j_dupR, j_popI, j_dup2, j_ifeq, j_iceq, j_ifne, j_icne, j_iflt, j_iclt, j_ifge, j_icge, j_ifgt, j_icgt, j_ifle, j_icle, j_goto, j_tsw, j_sw0, j_sw1, j_ireturn, j_zreturn, j_lreturn, j_return, j_getfield, j_putI, j_putJ, j_putR, j_iaload, j_baload, j_iastore, j_bastore, j_aaload, j_q, j_aastore, j_acopy, j_mmin, j_mmax, j_mabs, j_objinit, j_new, j_newI, j_newQ, j_sld, j_slen, j_callV0, j_callI0, j_callS0, j_callV1, j_callI1, j_callS1, j_callV2, j_callI2, j_callS2, j_callV3, j_callS3, j_callV4, j_callS4, j_callV5, j_callS5, j_pushS, j_pushN, j_sh0, j_sh1, j_sh2, j_sh3, j_sh4, Int32.reduceAdd, Int32.reduceMul, Int32.reduceSub, Int32.reduceLT, Int32.reduceLE, eq_self, i32_10, i32_01, ne_eq, hrow_s, hrow_n, ne10, ne100, ne1000, ne7, ne4, ne14, ne9973, or_true, true_or, or_false, false_or, not_true_eq_false, not_false_eq_true, false_implies, implies_true, and_true, forall_const, true_implies, jargs_n, jargs_r, jargs_i, List.cons_append, List.nil_append, true_and, Nat.reduceEqDiff, reduceIte, ft_X7_again_0, ft_X7_again_1, ft_X7_again_2, ft_X7_again_3, ft_X7_again_6, ft_X7_again_9, ft_X7_again_10, ft_X7_again_11, ft_X7_again_12, ft_X7_again_15, ft_X7_again_16, ft_X7_again_17, ft_X7_again_20, ft_X7_again_22, ft_X7_again_23, ft_X7_again_24, ft_X7_again_25, ft_X7_again_26, ft_X7_again_28, ft_X7_again_31, ft_X7_again_32, ft_X7_again_35, ft_X7_again_36, ft_X7_again_37, ft_X7_again_40, ft_X7_again_42, ft_X7_again_43, ft_X7_again_44, ft_X7_again_45, ft_X7_again_46, ft_X7_again_47, ft_X7_again_48, ft_X7_again_51, ft_X7_again_54, ft_X7_again_55, ft_X7_again_56, ft_X7_again_59, ft_X7_again_60, ft_X7_again_63, ft_X7_again_65, ft_X7_again_66, hq, fl_71_15, fl_71_10, e1, as_78, al_81, v1, v2, nI_1, hrow_hrow, nI_clamp (show j < 2 ^ 31 by omega), nI_clamp (show 40 * s + j < 2 ^ 31 by omega)]
    refine ih (j + 1) (by omega) _ (cf.upd (by omega)) fun i hi => ?_
    by_cases q : i = j
    · subst q; rw [upd_eq]
    · rw [upd_ne q]; exact hf i (by omega)
theorem ok_X7_again : jMeets Y_X7_again S_X7_again := by
  intro nb vs mem Q h
  obtain ⟨C, z, i, rfl, rfl, c78, h01, hy, h0, hn⟩ := h
  refine Ok.run OK_X7_again [25] 60 [none] pn7 (Nat.le_of_ble_eq_true rfl) rfl ?_
  by_cases g : 0 ≤ i ∧ i ≤ 1
  · obtain ⟨j, hj, rfl⟩ := i32_o1 g
    have v1 : vp_in (nI j) 2 := vp_in_nI (by omega) (by decide)
    rcases h01 j hj rfl with e | e
    · simp -implicitDefEqProofs only [jr_0, jr_1, jr_2, j_iconst, j_lconst, j_iload0, j_aload0, j_istore0, j_astore0, j_iinc0, j_iload1, j_aload1, j_istore1, j_astore1, j_iinc1, j_iload2, j_aload2, j_istore2, j_astore2, j_iinc2, j_iload3, j_aload3, j_istore3, j_astore3, j_iinc3, j_iload4, j_aload4, j_istore4, j_astore4, j_iinc4, j_iload5, j_aload5, j_istore5, j_astore5, j_iinc5, j_iload6, j_aload6, j_istore6, j_astore6, j_iinc6, j_iload7, j_aload7, j_istore7, j_astore7, j_iinc7, j_iload8, j_aload8, j_istore8, j_astore8, j_iinc8, j_iadd, j_isub, j_imul, j_iand, j_ior, j_ixor, j_ishl, j_ishr, j_iushr, j_idiv, j_irem, j_ineg, j_ladd, j_lmul, j_land, j_lor, j_lcmp, j_lushr, j_lshl, j_i2l, j_l2i, j_dupI, j_dupR, j_popI, j_dup2, j_ifeq, j_iceq, j_ifne, j_icne, j_iflt, j_iclt, j_ifge, j_icge, j_ifgt, j_icgt, j_ifle, j_icle, j_goto, j_tsw, j_sw0, j_sw1, j_ireturn, j_zreturn, j_lreturn, j_return, j_getfield, j_putI, j_putJ, j_putR, j_iaload, j_baload, j_iastore, j_bastore, j_aaload, j_q, j_aastore, j_acopy, j_mmin, j_mmax, j_mabs, j_objinit, j_new, j_newI, j_newQ, j_sld, j_slen, j_callV0, j_callI0, j_callS0, j_callV1, j_callI1, j_callS1, j_callV2, j_callI2, j_callS2, j_callV3, j_callS3, j_callV4, j_callS4, j_callV5, j_callS5, j_pushS, j_pushN, j_sh0, j_sh1, j_sh2, j_sh3, j_sh4, Int32.reduceAdd, Int32.reduceMul, Int32.reduceSub, Int32.reduceLT, Int32.reduceLE, eq_self, i32_10, i32_01, ne_eq, hrow_s, hrow_n, ne10, ne100, ne1000, ne7, ne4, ne14, ne9973, or_true, true_or, or_false, false_or, not_true_eq_false, not_false_eq_true, false_implies, implies_true, and_true, forall_const, true_implies, jargs_n, jargs_r, jargs_i, List.cons_append, List.nil_append, true_and, Nat.reduceEqDiff, reduceIte, ft_X7_again_0, ft_X7_again_1, ft_X7_again_2, ft_X7_again_3, ft_X7_again_6, ft_X7_again_9, ft_X7_again_10, ft_X7_again_11, ft_X7_again_12, ft_X7_again_15, ft_X7_again_16, ft_X7_again_17, ft_X7_again_20, ft_X7_again_22, ft_X7_again_23, ft_X7_again_24, ft_X7_again_25, ft_X7_again_26, ft_X7_again_28, ft_X7_again_31, ft_X7_again_32, ft_X7_again_35, ft_X7_again_36, ft_X7_again_37, ft_X7_again_40, ft_X7_again_42, ft_X7_again_43, ft_X7_again_44, ft_X7_again_45, ft_X7_again_46, ft_X7_again_47, ft_X7_again_48, ft_X7_again_51, ft_X7_again_54, ft_X7_again_55, ft_X7_again_56, ft_X7_again_59, ft_X7_again_60, ft_X7_again_63, ft_X7_again_65, ft_X7_again_66, s_X7_in, zb_t g, ne1_0, fl_71_16, al_82, v1, nI_clamp (show j < 2 ^ 31 by omega), e]
      exact h0 j hj rfl e
    · simp -implicitDefEqProofs only [jr_0, jr_1, jr_2, j_iconst, j_lconst, j_iload0, j_aload0, j_istore0, j_astore0, j_iinc0, j_iload1, j_aload1, j_istore1, j_astore1, j_iinc1, j_iload2, j_aload2, j_istore2, j_astore2, j_iinc2, j_iload3, j_aload3, j_istore3, j_astore3, j_iinc3, j_iload4, j_aload4, j_istore4, j_astore4, j_iinc4, j_iload5, j_aload5, j_istore5, j_astore5, j_iinc5, j_iload6, j_aload6, j_istore6, j_astore6, j_iinc6, j_iload7, j_aload7, j_istore7, j_astore7, j_iinc7, j_iload8, j_aload8, j_istore8, j_astore8, j_iinc8, j_iadd, j_isub, j_imul, j_iand, j_ior, j_ixor, j_ishl, j_ishr, j_iushr, j_idiv, j_irem, j_ineg, j_ladd, j_lmul, j_land, j_lor, j_lcmp, j_lushr, j_lshl, j_i2l, j_l2i, j_dupI, j_dupR, j_popI, j_dup2, j_ifeq, j_iceq, j_ifne, j_icne, j_iflt, j_iclt, j_ifge, j_icge, j_ifgt, j_icgt, j_ifle, j_icle, j_goto, j_tsw, j_sw0, j_sw1, j_ireturn, j_zreturn, j_lreturn, j_return, j_getfield, j_putI, j_putJ, j_putR, j_iaload, j_baload, j_iastore, j_bastore, j_aaload, j_q, j_aastore, j_acopy, j_mmin, j_mmax, j_mabs, j_objinit, j_new, j_newI, j_newQ, j_sld, j_slen, j_callV0, j_callI0, j_callS0, j_callV1, j_callI1, j_callS1, j_callV2, j_callI2, j_callS2, j_callV3, j_callS3, j_callV4, j_callS4, j_callV5, j_callS5, j_pushS, j_pushN, j_sh0, j_sh1, j_sh2, j_sh3, j_sh4, Int32.reduceAdd, Int32.reduceMul, Int32.reduceSub, Int32.reduceLT, Int32.reduceLE, eq_self, i32_10, i32_01, ne_eq, hrow_s, hrow_n, ne10, ne100, ne1000, ne7, ne4, ne14, ne9973, or_true, true_or, or_false, false_or, not_true_eq_false, not_false_eq_true, false_implies, implies_true, and_true, forall_const, true_implies, jargs_n, jargs_r, jargs_i, List.cons_append, List.nil_append, true_and, Nat.reduceEqDiff, reduceIte, ft_X7_again_0, ft_X7_again_1, ft_X7_again_2, ft_X7_again_3, ft_X7_again_6, ft_X7_again_9, ft_X7_again_10, ft_X7_again_11, ft_X7_again_12, ft_X7_again_15, ft_X7_again_16, ft_X7_again_17, ft_X7_again_20, ft_X7_again_22, ft_X7_again_23, ft_X7_again_24, ft_X7_again_25, ft_X7_again_26, ft_X7_again_28, ft_X7_again_31, ft_X7_again_32, ft_X7_again_35, ft_X7_again_36, ft_X7_again_37, ft_X7_again_40, ft_X7_again_42, ft_X7_again_43, ft_X7_again_44, ft_X7_again_45, ft_X7_again_46, ft_X7_again_47, ft_X7_again_48, ft_X7_again_51, ft_X7_again_54, ft_X7_again_55, ft_X7_again_56, ft_X7_again_59, ft_X7_again_60, ft_X7_again_63, ft_X7_again_65, ft_X7_again_66, s_X7_in, zb_t g, ne1_0, fl_71_16, al_82, v1, nI_clamp (show j < 2 ^ 31 by omega), e]
      have := lp_X7_again (nb := nb) (Q := Q) (z := z) hj (hy j hj rfl e) 40 0 (by omega) (C 78) c78 (fun i hi => absurd hi (Nat.not_lt_zero i))
      rw [hrow_self] at this
      exact this
  · simp -implicitDefEqProofs only [jr_0, jr_1, jr_2, j_iconst, j_lconst, j_iload0, j_aload0, j_istore0, j_astore0, j_iinc0, j_iload1, j_aload1, j_istore1, j_astore1, j_iinc1, j_iload2, j_aload2, j_istore2, j_astore2, j_iinc2, j_iload3, j_aload3, j_istore3, j_astore3, j_iinc3, j_iload4, j_aload4, j_istore4, j_astore4, j_iinc4, j_iload5, j_aload5, j_istore5, j_astore5, j_iinc5, j_iload6, j_aload6, j_istore6, j_astore6, j_iinc6, j_iload7, j_aload7, j_istore7, j_astore7, j_iinc7, j_iload8, j_aload8, j_istore8, j_astore8, j_iinc8, j_iadd, j_isub, j_imul, j_iand, j_ior, j_ixor, j_ishl, j_ishr, j_iushr, j_idiv, j_irem, j_ineg, j_ladd, j_lmul, j_land, j_lor, j_lcmp, j_lushr, j_lshl, j_i2l, j_l2i, j_dupI, j_dupR, j_popI, j_dup2, j_ifeq, j_iceq, j_ifne, j_icne, j_iflt, j_iclt, j_ifge, j_icge, j_ifgt, j_icgt, j_ifle, j_icle, j_goto, j_tsw, j_sw0, j_sw1, j_ireturn, j_zreturn, j_lreturn, j_return, j_getfield, j_putI, j_putJ, j_putR, j_iaload, j_baload, j_iastore, j_bastore, j_aaload, j_q, j_aastore, j_acopy, j_mmin, j_mmax, j_mabs, j_objinit, j_new, j_newI, j_newQ, j_sld, j_slen, j_callV0, j_callI0, j_callS0, j_callV1, j_callI1, j_callS1, j_callV2, j_callI2, j_callS2, j_callV3, j_callS3, j_callV4, j_callS4, j_callV5, j_callS5, j_pushS, j_pushN, j_sh0, j_sh1, j_sh2, j_sh3, j_sh4, Int32.reduceAdd, Int32.reduceMul, Int32.reduceSub, Int32.reduceLT, Int32.reduceLE, eq_self, i32_10, i32_01, ne_eq, hrow_s, hrow_n, ne10, ne100, ne1000, ne7, ne4, ne14, ne9973, or_true, true_or, or_false, false_or, not_true_eq_false, not_false_eq_true, false_implies, implies_true, and_true, forall_const, true_implies, jargs_n, jargs_r, jargs_i, List.cons_append, List.nil_append, true_and, Nat.reduceEqDiff, reduceIte, ft_X7_again_0, ft_X7_again_1, ft_X7_again_2, ft_X7_again_3, ft_X7_again_6, ft_X7_again_9, ft_X7_again_10, ft_X7_again_11, ft_X7_again_12, ft_X7_again_15, ft_X7_again_16, ft_X7_again_17, ft_X7_again_20, ft_X7_again_22, ft_X7_again_23, ft_X7_again_24, ft_X7_again_25, ft_X7_again_26, ft_X7_again_28, ft_X7_again_31, ft_X7_again_32, ft_X7_again_35, ft_X7_again_36, ft_X7_again_37, ft_X7_again_40, ft_X7_again_42, ft_X7_again_43, ft_X7_again_44, ft_X7_again_45, ft_X7_again_46, ft_X7_again_47, ft_X7_again_48, ft_X7_again_51, ft_X7_again_54, ft_X7_again_55, ft_X7_again_56, ft_X7_again_59, ft_X7_again_60, ft_X7_again_63, ft_X7_again_65, ft_X7_again_66, s_X7_in, zb_f g]
    exact hn g
theorem co_again (i : Int32) : Co S_X6_again S_X7_again [.ref 0, .int i] [.ref 71, .int i] := by
  intro n C z h hn nb Q hQ
  obtain ⟨P, K, L, nx, ct, sn, h⟩ := h
  have k := h.ak
  have kr := h.kr
  obtain ⟨⟨⟨hx, h14, hc, hc14, hcr⟩, hm14, hm13⟩, hh⟩ := h.hr
  have hre := h.rel k.rf h.hz
  have c78 : Cut (C 78) := by rw [k.e]; exact k.iv.cut
  refine s_X6_again k.iv.cut kr.1.1 kr.1.2 ?_
  unfold againQ
  by_cases g : 0 ≤ i ∧ i ≤ 1
  · rw [lt2_le1, pick_t g]
    obtain ⟨j, hj, rfl⟩ := i32_o1 g
    have ks : KS C P K (3960 * n) j := by
      have : j = 0 ∨ j = 1 := by omega
      rcases this with rfl | rfl
      · exact kr.2.1
      · exact kr.2.2
    have inj : ∀ j', j' < 2 → nI j = nI j' → j = j' := fun j' hj' e => nI_inj (by omega) (by omega) e
    rw [nI_clamp (by omega)]
    rcases ks with ⟨q1, q2⟩ | ⟨⟨q1, q2⟩, q3, q4⟩
    · rw [pick_f q1]
      refine hQ _ _ _ fun nb Q hq => ⟨C, z, nI j, rfl, rfl, c78, fun j' hj' e => ?_, fun j' hj' e e1 => ?_, fun j' hj' e e1 => hq C z hre, fun q => absurd g q⟩
      · rw [← inj j' hj' e]; exact Or.inl q2
      · rw [← inj j' hj' e, q2] at e1
        exact absurd e1 (by decide)
    · rw [pick_t q1]
      generalize hC1 : hrow (hrow C 9 (C (65 + 3 * j))) 15 (upd (C 15) 2 0) = C1
      have r1 : ∀ a, a ≠ 9 → a ≠ 15 → C1 a = C a := fun a g1 g2 => by rw [← hC1, hrow_n g2, hrow_n g1]
      refine hQ _ _ _ fun nb Q hq => ⟨C1, z, nI j, rfl, rfl, by rw [r1 78 (by decide) (by decide)]; exact c78, fun j' hj' e => ?_, fun j' hj' e e1 ρ c1 c2 => ?_, fun j' hj' e e1 => ?_, fun q => absurd g q⟩
      · rw [← inj j' hj' e, r1 82 (by decide) (by decide)]; exact Or.inr q2
      · rw [← inj j' hj' e, r1 81 (by decide) (by decide)] at c2
        have eρ : ρ = C (65 + 3 * j) := c1.ext q3.cut fun i hi => by rw [c2 i hi, q4 i hi]
        subst eρ
        refine hq _ _ ⟨P, K, L, nx, 0, sn, ?_⟩
        generalize hC : hrow (hrow C1 78 (C (65 + 3 * j))) 71 (upd (C1 71) 13 0) = C'
        have r : ∀ a, (a != 9 && (a != 15 && (a != 71 && a != 78))) = true → C' a = C a := fun a ha => by
          simp at ha
          obtain ⟨w1, w2, w3, w4⟩ := ha
          rw [← hC, hrow_n w3, hrow_n w4, r1 a w1 w2]
        have f : ∀ i, i ≠ 13 → C' 71 i = C 71 i := fun i w => by
          rw [← hC, hrow_s, upd_ne w, r1 71 (by decide) (by decide)]
        have e9 : C' 9 = C (65 + 3 * j) := by rw [← hC, ← hC1]; rfl
        have e78 : C' 78 = C (65 + 3 * j) := by rw [← hC]; rfl
        have e15 : C' 15 = upd (C 15) 2 0 := by rw [← hC, ← hC1]; rfl
        have rr : ∀ j, j < 14 → C' (17 + 3 * j) = C (17 + 3 * j) := fun j hj => r _ (by simp; omega)
        refine ⟨⟨h.hz, by rw [f 22 (by decide)]; exact h.h15, by rw [f 23 (by decide)]; exact h.h9⟩, ?_, ?_, ?_, ?_, ?_⟩
        · refine ⟨?_, ⟨by rw [e9, e78], by rw [e9]; exact q3.le (by omega)⟩, by rw [r 12 rfl]; exact k.2.2.1, by rw [r 79 rfl]; exact k.2.2.2⟩
          exact k.s.eq (r 3 rfl) (r 4 rfl) (r 5 rfl) (f 2 (by decide)) (f 4 (by decide)) (f 9 (by decide)) (r 73 rfl) (r 74 rfl) (r 75 rfl) (r 76 rfl) (r 77 rfl)
        · exact h.tr.eq (r 1 rfl) (r 2 rfl) (r 72 rfl) (f 1 (by decide))
        · refine ⟨⟨⟨by rw [e15, upd_ne (by decide)]; exact hx, h14, by rw [e15, upd_eq]; rfl, by omega, fun j hj => by rw [rr j hj]; exact hcr j hj⟩, by rw [f 14 (by decide)]; exact hm14, ?_⟩, fun i hi => absurd hi (Nat.not_lt_zero i)⟩
          rw [← hC, hrow_s, upd_eq]
          rfl
        · exact (h.kr.eq (r 0 rfl) (r 82 rfl) (r 65 rfl) (r 68 rfl) (r 81 rfl)).le (by omega)
        · exact h.or.eq (r 60 rfl) (r 61 rfl) (r 62 rfl) (r 63 rfl) (r 83 rfl) (r 84 rfl) (r 85 rfl) (f 20 (by decide))
      · rw [← inj j' hj' e, r1 82 (by decide) (by decide), q2] at e1
        exact absurd e1 (by decide)
  · rw [lt2_le1, pick_f g]
    refine hQ _ _ _ fun nb Q hq => ⟨C, z, i, rfl, rfl, c78, fun j hj e => ?_, fun j hj e => ?_, fun j hj e => ?_, fun _ => hq C z hre⟩
    all_goals
      refine absurd ?_ g
      rw [e]
      exact ⟨nI_le (a := 0) (by omega) (by omega), nI_le (b := 1) (by omega) (by omega)⟩
