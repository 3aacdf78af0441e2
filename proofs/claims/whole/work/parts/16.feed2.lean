/-! changeStates -/
def S_X0_changeStates : jSp := fun _ vs mem Q => ∃ C z s P, ∃ l : Int32, vs = [.ref 6, .ref s, .int l] ∧ mem = memS 94 C z ∧ jSt s 94 ∧ C 3 2 = nI P ∧ P ≤ 4 ∧ Q none (memS 94 (hrow C s (foldP (stStep (C 5) l) (C s) P)) z)
def F_X0_changeStates_0 : Nat → jT := fun pc => (bif Nat.blt pc 13 then (bif Nat.blt pc 3 then (bif Nat.blt pc 1 then (bif Nat.beq pc 0 then J_iconst 0 1 else jbad) else (bif Nat.blt pc 2 then (bif Nat.beq pc 1 then J_istore 3 2 else jbad) else (bif Nat.beq pc 2 then J_iload 3 3 else jbad))) else (bif Nat.blt pc 7 then (bif Nat.blt pc 4 then (bif Nat.beq pc 3 then J_aload 0 4 else jbad) else (bif Nat.beq pc 4 then J_getfield 0 0 7 else jbad)) else (bif Nat.blt pc 10 then (bif Nat.beq pc 7 then J_getfield 3 2 10 else jbad) else (bif Nat.beq pc 10 then J_icge 102 13 else jbad)))) else (bif Nat.blt pc 16 then (bif Nat.blt pc 14 then (bif Nat.beq pc 13 then J_aload 1 14 else jbad) else (bif Nat.blt pc 15 then (bif Nat.beq pc 14 then J_iload 3 15 else jbad) else (bif Nat.beq pc 15 then J_iconst 2 16 else jbad))) else (bif Nat.blt pc 21 then (bif Nat.blt pc 19 then (bif Nat.beq pc 16 then J_callV 4 S_X4_get 2 19 else jbad) else (bif Nat.beq pc 19 then J_istore 4 21 else jbad)) else (bif Nat.blt pc 22 then (bif Nat.beq pc 21 then J_aload 1 22 else jbad) else (bif Nat.beq pc 22 then J_aload 1 23 else jbad)))))
theorem ftl_X0_changeStates_0 : F_X0_changeStates_0 0 = J_iconst 0 1 := rfl
theorem ftl_X0_changeStates_1 : F_X0_changeStates_0 1 = J_istore 3 2 := rfl
theorem ftl_X0_changeStates_2 : F_X0_changeStates_0 2 = J_iload 3 3 := rfl
theorem ftl_X0_changeStates_3 : F_X0_changeStates_0 3 = J_aload 0 4 := rfl
theorem ftl_X0_changeStates_4 : F_X0_changeStates_0 4 = J_getfield 0 0 7 := rfl
theorem ftl_X0_changeStates_7 : F_X0_changeStates_0 7 = J_getfield 3 2 10 := rfl
theorem ftl_X0_changeStates_10 : F_X0_changeStates_0 10 = J_icge 102 13 := rfl
theorem ftl_X0_changeStates_13 : F_X0_changeStates_0 13 = J_aload 1 14 := rfl
theorem ftl_X0_changeStates_14 : F_X0_changeStates_0 14 = J_iload 3 15 := rfl
theorem ftl_X0_changeStates_15 : F_X0_changeStates_0 15 = J_iconst 2 16 := rfl
theorem ftl_X0_changeStates_16 : F_X0_changeStates_0 16 = J_callV 4 S_X4_get 2 19 := rfl
theorem ftl_X0_changeStates_19 : F_X0_changeStates_0 19 = J_istore 4 21 := rfl
theorem ftl_X0_changeStates_21 : F_X0_changeStates_0 21 = J_aload 1 22 := rfl
theorem ftl_X0_changeStates_22 : F_X0_changeStates_0 22 = J_aload 1 23 := rfl
theorem F_X0_changeStates_0_ok : jOK Y_X0_changeStates none (F_X0_changeStates_0) := (jOK_node (jOK_node (jOK_node (jOK_leaf (sn_iconst dX0_changeStates_0 rfl rfl)) (jOK_node (jOK_leaf (sn_istore_n dX0_changeStates_1 rfl rfl (by decide))) (jOK_leaf (sn_iload_n dX0_changeStates_2 rfl rfl)))) (jOK_node (jOK_node (jOK_leaf (sn_aload_n dX0_changeStates_3 rfl rfl)) (jOK_leaf (sn_getfield dX0_changeStates_4 rfl rfl (by decide) tw_73 jin0))) (jOK_node (jOK_leaf (sn_getfield dX0_changeStates_7 rfl rfl (by decide) tw_46 jin3)) (jOK_leaf (sn_icge dX0_changeStates_10 rfl rfl))))) (jOK_node (jOK_node (jOK_leaf (sn_aload_n dX0_changeStates_13 rfl rfl)) (jOK_node (jOK_leaf (sn_iload_n dX0_changeStates_14 rfl rfl)) (jOK_leaf (sn_iconst dX0_changeStates_15 rfl rfl)))) (jOK_node (jOK_node (jOK_leaf (sn_callV (Y' := Y_X4_get) ok_X4_get dX0_changeStates_16 rfl rfl rfl tw_306 tw_267 tw_268 tw_5 jc_X4_get rfl ⟨by decide, by decide, rfl⟩ ⟨by decide, by decide⟩)) (jOK_leaf (sn_istore dX0_changeStates_19 rfl (by decide)))) (jOK_node (jOK_leaf (sn_aload_n dX0_changeStates_21 rfl rfl)) (jOK_leaf (sn_aload_n dX0_changeStates_22 rfl rfl))))))
def F_X0_changeStates_23 : Nat → jT := fun pc => (bif Nat.blt pc 38 then (bif Nat.blt pc 28 then (bif Nat.blt pc 24 then (bif Nat.beq pc 23 then J_iload 3 24 else jbad) else (bif Nat.blt pc 25 then (bif Nat.beq pc 24 then J_iconst 1 25 else jbad) else (bif Nat.beq pc 25 then J_callV 4 S_X4_get 2 28 else jbad))) else (bif Nat.blt pc 34 then (bif Nat.blt pc 31 then (bif Nat.beq pc 28 then J_callV 4 S_X4_restOf 1 31 else jbad) else (bif Nat.beq pc 31 then J_ifne 38 34 else jbad)) else (bif Nat.blt pc 35 then (bif Nat.beq pc 34 then J_iconst 1 35 else jbad) else (bif Nat.beq pc 35 then J_goto 39 else jbad)))) else (bif Nat.blt pc 43 then (bif Nat.blt pc 39 then (bif Nat.beq pc 38 then J_iconst 0 39 else jbad) else (bif Nat.blt pc 41 then (bif Nat.beq pc 39 then J_istore 5 41 else jbad) else (bif Nat.beq pc 41 then J_iload 4 43 else jbad))) else (bif Nat.blt pc 47 then (bif Nat.blt pc 44 then (bif Nat.beq pc 43 then J_iconst 1 44 else jbad) else (bif Nat.beq pc 44 then J_icne 57 47 else jbad)) else (bif Nat.blt pc 48 then (bif Nat.beq pc 47 then J_aload 0 48 else jbad) else (bif Nat.beq pc 48 then J_aload 1 49 else jbad)))))
theorem ftl_X0_changeStates_23 : F_X0_changeStates_23 23 = J_iload 3 24 := rfl
theorem ftl_X0_changeStates_24 : F_X0_changeStates_23 24 = J_iconst 1 25 := rfl
theorem ftl_X0_changeStates_25 : F_X0_changeStates_23 25 = J_callV 4 S_X4_get 2 28 := rfl
theorem ftl_X0_changeStates_28 : F_X0_changeStates_23 28 = J_callV 4 S_X4_restOf 1 31 := rfl
theorem ftl_X0_changeStates_31 : F_X0_changeStates_23 31 = J_ifne 38 34 := rfl
theorem ftl_X0_changeStates_34 : F_X0_changeStates_23 34 = J_iconst 1 35 := rfl
theorem ftl_X0_changeStates_35 : F_X0_changeStates_23 35 = J_goto 39 := rfl
theorem ftl_X0_changeStates_38 : F_X0_changeStates_23 38 = J_iconst 0 39 := rfl
theorem ftl_X0_changeStates_39 : F_X0_changeStates_23 39 = J_istore 5 41 := rfl
theorem ftl_X0_changeStates_41 : F_X0_changeStates_23 41 = J_iload 4 43 := rfl
theorem ftl_X0_changeStates_43 : F_X0_changeStates_23 43 = J_iconst 1 44 := rfl
theorem ftl_X0_changeStates_44 : F_X0_changeStates_23 44 = J_icne 57 47 := rfl
theorem ftl_X0_changeStates_47 : F_X0_changeStates_23 47 = J_aload 0 48 := rfl
theorem ftl_X0_changeStates_48 : F_X0_changeStates_23 48 = J_aload 1 49 := rfl
theorem F_X0_changeStates_23_ok : jOK Y_X0_changeStates none (F_X0_changeStates_23) := (jOK_node (jOK_node (jOK_node (jOK_leaf (sn_iload_n dX0_changeStates_23 rfl rfl)) (jOK_node (jOK_leaf (sn_iconst dX0_changeStates_24 rfl rfl)) (jOK_leaf (sn_callV (Y' := Y_X4_get) ok_X4_get dX0_changeStates_25 rfl rfl rfl tw_306 tw_267 tw_268 tw_5 jc_X4_get rfl ⟨by decide, by decide, rfl⟩ ⟨by decide, by decide⟩)))) (jOK_node (jOK_node (jOK_leaf (sn_callV (Y' := Y_X4_restOf) ok_X4_restOf dX0_changeStates_28 rfl rfl rfl tw_315 tw_279 tw_280 tw_5 jc_X4_restOf rfl ⟨by decide, by decide, rfl⟩ ⟨by decide, by decide⟩)) (jOK_leaf (sn_ifne dX0_changeStates_31 rfl rfl))) (jOK_node (jOK_leaf (sn_iconst dX0_changeStates_34 rfl rfl)) (jOK_leaf (sn_goto dX0_changeStates_35 rfl))))) (jOK_node (jOK_node (jOK_leaf (sn_iconst dX0_changeStates_38 rfl rfl)) (jOK_node (jOK_leaf (sn_istore dX0_changeStates_39 rfl (by decide))) (jOK_leaf (sn_iload dX0_changeStates_41 rfl)))) (jOK_node (jOK_node (jOK_leaf (sn_iconst dX0_changeStates_43 rfl rfl)) (jOK_leaf (sn_icne dX0_changeStates_44 rfl rfl))) (jOK_node (jOK_leaf (sn_aload_n dX0_changeStates_47 rfl rfl)) (jOK_leaf (sn_aload_n dX0_changeStates_48 rfl rfl))))))
def F_X0_changeStates_0_48 : Nat → jT := fun pc => bif Nat.blt pc 23 then F_X0_changeStates_0 pc else F_X0_changeStates_23 pc
theorem F_X0_changeStates_0_48_ok : jOK Y_X0_changeStates none (F_X0_changeStates_0_48) := jOK_node (F_X0_changeStates_0_ok) (F_X0_changeStates_23_ok)
def F_X0_changeStates_49 : Nat → jT := fun pc => (bif Nat.blt pc 63 then (bif Nat.blt pc 54 then (bif Nat.blt pc 50 then (bif Nat.beq pc 49 then J_iload 3 50 else jbad) else (bif Nat.blt pc 51 then (bif Nat.beq pc 50 then J_iload 2 51 else jbad) else (bif Nat.beq pc 51 then J_callV 0 S_X0_growOlder 3 54 else jbad))) else (bif Nat.blt pc 59 then (bif Nat.blt pc 57 then (bif Nat.beq pc 54 then J_goto 96 else jbad) else (bif Nat.beq pc 57 then J_iload 4 59 else jbad)) else (bif Nat.blt pc 60 then (bif Nat.beq pc 59 then J_iconst 2 60 else jbad) else (bif Nat.beq pc 60 then J_icne 78 63 else jbad)))) else (bif Nat.blt pc 69 then (bif Nat.blt pc 65 then (bif Nat.beq pc 63 then J_iload 5 65 else jbad) else (bif Nat.blt pc 68 then (bif Nat.beq pc 65 then J_ifne 78 68 else jbad) else (bif Nat.beq pc 68 then J_aload 1 69 else jbad))) else (bif Nat.blt pc 71 then (bif Nat.blt pc 70 then (bif Nat.beq pc 69 then J_iload 3 70 else jbad) else (bif Nat.beq pc 70 then J_iconst 2 71 else jbad)) else (bif Nat.blt pc 72 then (bif Nat.beq pc 71 then J_iconst 3 72 else jbad) else (bif Nat.beq pc 72 then J_callV 4 S_X4_set 3 75 else jbad)))))
theorem ftl_X0_changeStates_49 : F_X0_changeStates_49 49 = J_iload 3 50 := rfl
theorem ftl_X0_changeStates_50 : F_X0_changeStates_49 50 = J_iload 2 51 := rfl
theorem ftl_X0_changeStates_51 : F_X0_changeStates_49 51 = J_callV 0 S_X0_growOlder 3 54 := rfl
theorem ftl_X0_changeStates_54 : F_X0_changeStates_49 54 = J_goto 96 := rfl
theorem ftl_X0_changeStates_57 : F_X0_changeStates_49 57 = J_iload 4 59 := rfl
theorem ftl_X0_changeStates_59 : F_X0_changeStates_49 59 = J_iconst 2 60 := rfl
theorem ftl_X0_changeStates_60 : F_X0_changeStates_49 60 = J_icne 78 63 := rfl
theorem ftl_X0_changeStates_63 : F_X0_changeStates_49 63 = J_iload 5 65 := rfl
theorem ftl_X0_changeStates_65 : F_X0_changeStates_49 65 = J_ifne 78 68 := rfl
theorem ftl_X0_changeStates_68 : F_X0_changeStates_49 68 = J_aload 1 69 := rfl
theorem ftl_X0_changeStates_69 : F_X0_changeStates_49 69 = J_iload 3 70 := rfl
theorem ftl_X0_changeStates_70 : F_X0_changeStates_49 70 = J_iconst 2 71 := rfl
theorem ftl_X0_changeStates_71 : F_X0_changeStates_49 71 = J_iconst 3 72 := rfl
theorem ftl_X0_changeStates_72 : F_X0_changeStates_49 72 = J_callV 4 S_X4_set 3 75 := rfl
theorem F_X0_changeStates_49_ok : jOK Y_X0_changeStates none (F_X0_changeStates_49) := (jOK_node (jOK_node (jOK_node (jOK_leaf (sn_iload_n dX0_changeStates_49 rfl rfl)) (jOK_node (jOK_leaf (sn_iload_n dX0_changeStates_50 rfl rfl)) (jOK_leaf (sn_callV (Y' := Y_X0_growOlder) ok_X0_growOlder dX0_changeStates_51 rfl rfl rfl tw_363 tw_365 tp_11 tw_4 jc_X0_growOlder rfl ⟨by decide, by decide, rfl⟩ ⟨by decide, by decide⟩)))) (jOK_node (jOK_node (jOK_leaf (sn_goto dX0_changeStates_54 rfl)) (jOK_leaf (sn_iload dX0_changeStates_57 rfl))) (jOK_node (jOK_leaf (sn_iconst dX0_changeStates_59 rfl rfl)) (jOK_leaf (sn_icne dX0_changeStates_60 rfl rfl))))) (jOK_node (jOK_node (jOK_leaf (sn_iload dX0_changeStates_63 rfl)) (jOK_node (jOK_leaf (sn_ifne dX0_changeStates_65 rfl rfl)) (jOK_leaf (sn_aload_n dX0_changeStates_68 rfl rfl)))) (jOK_node (jOK_node (jOK_leaf (sn_iload_n dX0_changeStates_69 rfl rfl)) (jOK_leaf (sn_iconst dX0_changeStates_70 rfl rfl))) (jOK_node (jOK_leaf (sn_iconst dX0_changeStates_71 rfl rfl)) (jOK_leaf (sn_callV (Y' := Y_X4_set) ok_X4_set dX0_changeStates_72 rfl rfl rfl tw_358 tw_151 tw_152 tw_5 jc_X4_set rfl ⟨by decide, by decide, rfl⟩ ⟨by decide, by decide⟩))))))
def F_X0_changeStates_75 : Nat → jT := fun pc => (bif Nat.blt pc 90 then (bif Nat.blt pc 81 then (bif Nat.blt pc 78 then (bif Nat.beq pc 75 then J_goto 96 else jbad) else (bif Nat.blt pc 80 then (bif Nat.beq pc 78 then J_iload 4 80 else jbad) else (bif Nat.beq pc 80 then J_iconst 3 81 else jbad))) else (bif Nat.blt pc 86 then (bif Nat.blt pc 84 then (bif Nat.beq pc 81 then J_icne 96 84 else jbad) else (bif Nat.beq pc 84 then J_iload 5 86 else jbad)) else (bif Nat.blt pc 89 then (bif Nat.beq pc 86 then J_ifeq 96 89 else jbad) else (bif Nat.beq pc 89 then J_aload 1 90 else jbad)))) else (bif Nat.blt pc 93 then (bif Nat.blt pc 91 then (bif Nat.beq pc 90 then J_iload 3 91 else jbad) else (bif Nat.blt pc 92 then (bif Nat.beq pc 91 then J_iconst 2 92 else jbad) else (bif Nat.beq pc 92 then J_iconst 2 93 else jbad))) else (bif Nat.blt pc 99 then (bif Nat.blt pc 96 then (bif Nat.beq pc 93 then J_callV 4 S_X4_set 3 96 else jbad) else (bif Nat.beq pc 96 then J_iinc 3 1 99 else jbad)) else (bif Nat.blt pc 102 then (bif Nat.beq pc 99 then J_goto 2 else jbad) else (bif Nat.beq pc 102 then J_return 0 0 else jbad)))))
theorem ftl_X0_changeStates_75 : F_X0_changeStates_75 75 = J_goto 96 := rfl
theorem ftl_X0_changeStates_78 : F_X0_changeStates_75 78 = J_iload 4 80 := rfl
theorem ftl_X0_changeStates_80 : F_X0_changeStates_75 80 = J_iconst 3 81 := rfl
theorem ftl_X0_changeStates_81 : F_X0_changeStates_75 81 = J_icne 96 84 := rfl
theorem ftl_X0_changeStates_84 : F_X0_changeStates_75 84 = J_iload 5 86 := rfl
theorem ftl_X0_changeStates_86 : F_X0_changeStates_75 86 = J_ifeq 96 89 := rfl
theorem ftl_X0_changeStates_89 : F_X0_changeStates_75 89 = J_aload 1 90 := rfl
theorem ftl_X0_changeStates_90 : F_X0_changeStates_75 90 = J_iload 3 91 := rfl
theorem ftl_X0_changeStates_91 : F_X0_changeStates_75 91 = J_iconst 2 92 := rfl
theorem ftl_X0_changeStates_92 : F_X0_changeStates_75 92 = J_iconst 2 93 := rfl
theorem ftl_X0_changeStates_93 : F_X0_changeStates_75 93 = J_callV 4 S_X4_set 3 96 := rfl
theorem ftl_X0_changeStates_96 : F_X0_changeStates_75 96 = J_iinc 3 1 99 := rfl
theorem ftl_X0_changeStates_99 : F_X0_changeStates_75 99 = J_goto 2 := rfl
theorem ftl_X0_changeStates_102 : F_X0_changeStates_75 102 = J_return 0 0 := rfl
theorem F_X0_changeStates_75_ok : jOK Y_X0_changeStates none (F_X0_changeStates_75) := (jOK_node (jOK_node (jOK_node (jOK_leaf (sn_goto dX0_changeStates_75 rfl)) (jOK_node (jOK_leaf (sn_iload dX0_changeStates_78 rfl)) (jOK_leaf (sn_iconst dX0_changeStates_80 rfl rfl)))) (jOK_node (jOK_node (jOK_leaf (sn_icne dX0_changeStates_81 rfl rfl)) (jOK_leaf (sn_iload dX0_changeStates_84 rfl))) (jOK_node (jOK_leaf (sn_ifeq dX0_changeStates_86 rfl rfl)) (jOK_leaf (sn_aload_n dX0_changeStates_89 rfl rfl))))) (jOK_node (jOK_node (jOK_leaf (sn_iload_n dX0_changeStates_90 rfl rfl)) (jOK_node (jOK_leaf (sn_iconst dX0_changeStates_91 rfl rfl)) (jOK_leaf (sn_iconst dX0_changeStates_92 rfl rfl)))) (jOK_node (jOK_node (jOK_leaf (sn_callV (Y' := Y_X4_set) ok_X4_set dX0_changeStates_93 rfl rfl rfl tw_358 tw_151 tw_152 tw_5 jc_X4_set rfl ⟨by decide, by decide, rfl⟩ ⟨by decide, by decide⟩)) (jOK_leaf (sn_iinc dX0_changeStates_96 rfl rfl (by decide)))) (jOK_node (jOK_leaf (sn_goto dX0_changeStates_99 rfl)) (jOK_leaf (sn_return dX0_changeStates_102 rfl rfl))))))
def F_X0_changeStates_49_102 : Nat → jT := fun pc => bif Nat.blt pc 75 then F_X0_changeStates_49 pc else F_X0_changeStates_75 pc
theorem F_X0_changeStates_49_102_ok : jOK Y_X0_changeStates none (F_X0_changeStates_49_102) := jOK_node (F_X0_changeStates_49_ok) (F_X0_changeStates_75_ok)
def F_X0_changeStates_0_102 : Nat → jT := fun pc => bif Nat.blt pc 49 then F_X0_changeStates_0_48 pc else F_X0_changeStates_49_102 pc
theorem F_X0_changeStates_0_102_ok : jOK Y_X0_changeStates none (F_X0_changeStates_0_102) := jOK_node (F_X0_changeStates_0_48_ok) (F_X0_changeStates_49_102_ok)
def F_X0_changeStates : Nat → jT := F_X0_changeStates_0_102
theorem OK_X0_changeStates : jOK Y_X0_changeStates none (F_X0_changeStates) := F_X0_changeStates_0_102_ok
theorem ft_X0_changeStates_0 : F_X0_changeStates 0 = J_iconst 0 1 := ftl_X0_changeStates_0
theorem ft_X0_changeStates_1 : F_X0_changeStates 1 = J_istore 3 2 := ftl_X0_changeStates_1
theorem ft_X0_changeStates_2 : F_X0_changeStates 2 = J_iload 3 3 := ftl_X0_changeStates_2
theorem ft_X0_changeStates_3 : F_X0_changeStates 3 = J_aload 0 4 := ftl_X0_changeStates_3
theorem ft_X0_changeStates_4 : F_X0_changeStates 4 = J_getfield 0 0 7 := ftl_X0_changeStates_4
theorem ft_X0_changeStates_7 : F_X0_changeStates 7 = J_getfield 3 2 10 := ftl_X0_changeStates_7
theorem ft_X0_changeStates_10 : F_X0_changeStates 10 = J_icge 102 13 := ftl_X0_changeStates_10
theorem ft_X0_changeStates_13 : F_X0_changeStates 13 = J_aload 1 14 := ftl_X0_changeStates_13
theorem ft_X0_changeStates_14 : F_X0_changeStates 14 = J_iload 3 15 := ftl_X0_changeStates_14
theorem ft_X0_changeStates_15 : F_X0_changeStates 15 = J_iconst 2 16 := ftl_X0_changeStates_15
theorem ft_X0_changeStates_16 : F_X0_changeStates 16 = J_callV 4 S_X4_get 2 19 := ftl_X0_changeStates_16
theorem ft_X0_changeStates_19 : F_X0_changeStates 19 = J_istore 4 21 := ftl_X0_changeStates_19
theorem ft_X0_changeStates_21 : F_X0_changeStates 21 = J_aload 1 22 := ftl_X0_changeStates_21
theorem ft_X0_changeStates_22 : F_X0_changeStates 22 = J_aload 1 23 := ftl_X0_changeStates_22
theorem ft_X0_changeStates_23 : F_X0_changeStates 23 = J_iload 3 24 := ftl_X0_changeStates_23
theorem ft_X0_changeStates_24 : F_X0_changeStates 24 = J_iconst 1 25 := ftl_X0_changeStates_24
theorem ft_X0_changeStates_25 : F_X0_changeStates 25 = J_callV 4 S_X4_get 2 28 := ftl_X0_changeStates_25
theorem ft_X0_changeStates_28 : F_X0_changeStates 28 = J_callV 4 S_X4_restOf 1 31 := ftl_X0_changeStates_28
theorem ft_X0_changeStates_31 : F_X0_changeStates 31 = J_ifne 38 34 := ftl_X0_changeStates_31
theorem ft_X0_changeStates_34 : F_X0_changeStates 34 = J_iconst 1 35 := ftl_X0_changeStates_34
theorem ft_X0_changeStates_35 : F_X0_changeStates 35 = J_goto 39 := ftl_X0_changeStates_35
theorem ft_X0_changeStates_38 : F_X0_changeStates 38 = J_iconst 0 39 := ftl_X0_changeStates_38
theorem ft_X0_changeStates_39 : F_X0_changeStates 39 = J_istore 5 41 := ftl_X0_changeStates_39
theorem ft_X0_changeStates_41 : F_X0_changeStates 41 = J_iload 4 43 := ftl_X0_changeStates_41
theorem ft_X0_changeStates_43 : F_X0_changeStates 43 = J_iconst 1 44 := ftl_X0_changeStates_43
theorem ft_X0_changeStates_44 : F_X0_changeStates 44 = J_icne 57 47 := ftl_X0_changeStates_44
theorem ft_X0_changeStates_47 : F_X0_changeStates 47 = J_aload 0 48 := ftl_X0_changeStates_47
theorem ft_X0_changeStates_48 : F_X0_changeStates 48 = J_aload 1 49 := ftl_X0_changeStates_48
theorem ft_X0_changeStates_49 : F_X0_changeStates 49 = J_iload 3 50 := ftl_X0_changeStates_49
theorem ft_X0_changeStates_50 : F_X0_changeStates 50 = J_iload 2 51 := ftl_X0_changeStates_50
theorem ft_X0_changeStates_51 : F_X0_changeStates 51 = J_callV 0 S_X0_growOlder 3 54 := ftl_X0_changeStates_51
theorem ft_X0_changeStates_54 : F_X0_changeStates 54 = J_goto 96 := ftl_X0_changeStates_54
theorem ft_X0_changeStates_57 : F_X0_changeStates 57 = J_iload 4 59 := ftl_X0_changeStates_57
theorem ft_X0_changeStates_59 : F_X0_changeStates 59 = J_iconst 2 60 := ftl_X0_changeStates_59
theorem ft_X0_changeStates_60 : F_X0_changeStates 60 = J_icne 78 63 := ftl_X0_changeStates_60
theorem ft_X0_changeStates_63 : F_X0_changeStates 63 = J_iload 5 65 := ftl_X0_changeStates_63
theorem ft_X0_changeStates_65 : F_X0_changeStates 65 = J_ifne 78 68 := ftl_X0_changeStates_65
theorem ft_X0_changeStates_68 : F_X0_changeStates 68 = J_aload 1 69 := ftl_X0_changeStates_68
theorem ft_X0_changeStates_69 : F_X0_changeStates 69 = J_iload 3 70 := ftl_X0_changeStates_69
theorem ft_X0_changeStates_70 : F_X0_changeStates 70 = J_iconst 2 71 := ftl_X0_changeStates_70
theorem ft_X0_changeStates_71 : F_X0_changeStates 71 = J_iconst 3 72 := ftl_X0_changeStates_71
theorem ft_X0_changeStates_72 : F_X0_changeStates 72 = J_callV 4 S_X4_set 3 75 := ftl_X0_changeStates_72
theorem ft_X0_changeStates_75 : F_X0_changeStates 75 = J_goto 96 := ftl_X0_changeStates_75
theorem ft_X0_changeStates_78 : F_X0_changeStates 78 = J_iload 4 80 := ftl_X0_changeStates_78
theorem ft_X0_changeStates_80 : F_X0_changeStates 80 = J_iconst 3 81 := ftl_X0_changeStates_80
theorem ft_X0_changeStates_81 : F_X0_changeStates 81 = J_icne 96 84 := ftl_X0_changeStates_81
theorem ft_X0_changeStates_84 : F_X0_changeStates 84 = J_iload 5 86 := ftl_X0_changeStates_84
theorem ft_X0_changeStates_86 : F_X0_changeStates 86 = J_ifeq 96 89 := ftl_X0_changeStates_86
theorem ft_X0_changeStates_89 : F_X0_changeStates 89 = J_aload 1 90 := ftl_X0_changeStates_89
theorem ft_X0_changeStates_90 : F_X0_changeStates 90 = J_iload 3 91 := ftl_X0_changeStates_90
theorem ft_X0_changeStates_91 : F_X0_changeStates 91 = J_iconst 2 92 := ftl_X0_changeStates_91
theorem ft_X0_changeStates_92 : F_X0_changeStates 92 = J_iconst 2 93 := ftl_X0_changeStates_92
theorem ft_X0_changeStates_93 : F_X0_changeStates 93 = J_callV 4 S_X4_set 3 96 := ftl_X0_changeStates_93
theorem ft_X0_changeStates_96 : F_X0_changeStates 96 = J_iinc 3 1 99 := ftl_X0_changeStates_96
theorem ft_X0_changeStates_99 : F_X0_changeStates 99 = J_goto 2 := ftl_X0_changeStates_99
theorem ft_X0_changeStates_102 : F_X0_changeStates 102 = J_return 0 0 := ftl_X0_changeStates_102
theorem lp_X0_changeStates {Q : jQ} {C : Nat → Nat → Int32} {z : Nat → Int64} {nb s P : Nat} {l : Int32} (hs : jSt s 94) (hP : C 3 2 = nI P) (hP4 : P ≤ 4) (h : Q none (memS 94 (hrow C s (foldP (stStep (C 5) l) (C s) P)) z)) :
    ∀ k j, j + k = P → ∀ o o2 : Option Value, Rn Y_X0_changeStates none Q 2 [some (.ref 6), some (.ref s), some (.int l), some (.int (nI j)), o, o2] [] (memS 94 (hrow C s (foldP (stStep (C 5) l) (C s) j)) z) (nb, 0, 0) := by
  intro k
  induction k with
  | zero =>
    intro j hj o o2
    have hc : (nI P ≤ nI j) = True := eq_true (nI_le (by omega) (by omega))
    refine jrun_first OK_X0_changeStates (C := [2]) 60 ?_
    simp -implicitDefEqProofs only [jr_0, jr_1, jr_2, j_iconst, j_lconst, j_iload0, j_aload0, j_istore0, j_astore0, j_iinc0, j_iload1, j_aload1, j_istore1, j_astore1, j_iinc1, j_iload2, j_aload2, j_istore2, j_astore2, j_iinc2, j_iload3, j_aload3, j_istore3, j_astore3, j_iinc3, j_iload4, j_aload4, j_istore4, j_astore4, j_iinc4, j_iload5, j_aload5, j_istore5, j_astore5, j_iinc5, j_iload6, j_aload6, j_istore6, j_astore6, j_iinc6, j_iload7, j_aload7, j_istore7, j_astore7, j_iinc7, j_iload8, j_aload8, j_istore8, j_astore8, j_iinc8, j_iadd, j_isub, j_imul, j_iand, j_ior, j_ixor, j_ishl, j_ishr, j_iushr, j_idiv, j_irem, j_ineg, j_ladd, j_lmul, j_land, j_lor, j_lcmp, j_lushr, j_lshl, j_i2l, j_l2i, j_dupI, j_dupR, j_popI, j_dup2, j_ifeq, j_iceq, j_ifne, j_icne, j_iflt, j_iclt, j_ifge, j_icge, j_ifgt, j_icgt, j_ifle, j_icle, j_goto, j_tsw, j_sw0, j_sw1, j_ireturn, j_zreturn, j_lreturn, j_return, j_getfield, j_putI, j_putJ, j_putR, j_iaload, j_baload, j_iastore, j_bastore, j_aaload, j_q, j_aastore, j_acopy, j_mmin, j_mmax, j_mabs, j_objinit, j_new, j_newI, j_newQ, j_sld, j_slen, j_callV0, j_callI0, j_callS0, j_callV1, j_callI1, j_callS1, j_callV2, j_callI2, j_callS2, j_callV3, j_callS3, j_callV4, j_callS4, j_callV5, j_callS5, j_pushS, j_pushN, j_sh0, j_sh1, j_sh2, j_sh3, j_sh4, Int32.reduceAdd, Int32.reduceMul, Int32.reduceSub, Int32.reduceLT, Int32.reduceLE, eq_self, i32_10, i32_01, ne_eq, hrow_s, hrow_n, ne10, ne100, ne1000, ne7, ne4, ne14, ne9973, or_true, true_or, or_false, false_or, not_true_eq_false, not_false_eq_true, false_implies, implies_true, and_true, forall_const, true_implies, jargs_n, jargs_r, jargs_i, List.cons_append, List.nil_append, true_and, Nat.reduceEqDiff, reduceIte, ft_X0_changeStates_0, ft_X0_changeStates_1, ft_X0_changeStates_2, ft_X0_changeStates_3, ft_X0_changeStates_4, ft_X0_changeStates_7, ft_X0_changeStates_10, ft_X0_changeStates_13, ft_X0_changeStates_14, ft_X0_changeStates_15, ft_X0_changeStates_16, ft_X0_changeStates_19, ft_X0_changeStates_21, ft_X0_changeStates_22, ft_X0_changeStates_23, ft_X0_changeStates_24, ft_X0_changeStates_25, ft_X0_changeStates_28, ft_X0_changeStates_31, ft_X0_changeStates_34, ft_X0_changeStates_35, ft_X0_changeStates_38, ft_X0_changeStates_39, ft_X0_changeStates_41, ft_X0_changeStates_43, ft_X0_changeStates_44, ft_X0_changeStates_47, ft_X0_changeStates_48, ft_X0_changeStates_49, ft_X0_changeStates_50, ft_X0_changeStates_51, ft_X0_changeStates_54, ft_X0_changeStates_57, ft_X0_changeStates_59, ft_X0_changeStates_60, ft_X0_changeStates_63, ft_X0_changeStates_65, ft_X0_changeStates_68, ft_X0_changeStates_69, ft_X0_changeStates_70, ft_X0_changeStates_71, ft_X0_changeStates_72, ft_X0_changeStates_75, ft_X0_changeStates_78, ft_X0_changeStates_80, ft_X0_changeStates_81, ft_X0_changeStates_84, ft_X0_changeStates_86, ft_X0_changeStates_89, ft_X0_changeStates_90, ft_X0_changeStates_91, ft_X0_changeStates_92, ft_X0_changeStates_93, ft_X0_changeStates_96, ft_X0_changeStates_99, ft_X0_changeStates_102, fl_6_0, fl_3_2, (jst_ne hs).1, hP, hc]
    rw [show j = P by omega]
    exact h
  | succ k ih =>
    intro j hj o o2
    have hc : (nI P ≤ nI j) = False := eq_false (nI_ge (by omega) (by omega))
    have hk : ∀ o o2 : Option Value, Rn Y_X0_changeStates none Q 2 [some (.ref 6), some (.ref s), some (.int l), some (.int (nI (j + 1))), o, o2] [] (memS 94 (hrow C s (stStep (C 5) l (nI j) (foldP (stStep (C 5) l) (C s) j))) z) (nb, 0, 0) := fun o o2 => ih (j + 1) (by omega) o o2
    refine jrun_first OK_X0_changeStates (C := [2]) 80 ?_
    generalize foldP (stStep (C 5) l) (C s) j = ρ at hk ⊢
    simp -implicitDefEqProofs only [jr_0, jr_1, jr_2, j_iconst, j_lconst, j_iload0, j_aload0, j_istore0, j_astore0, j_iinc0, j_iload1, j_aload1, j_istore1, j_astore1, j_iinc1, j_iload2, j_aload2, j_istore2, j_astore2, j_iinc2, j_iload3, j_aload3, j_istore3, j_astore3, j_iinc3, j_iload4, j_aload4, j_istore4, j_astore4, j_iinc4, j_iload5, j_aload5, j_istore5, j_astore5, j_iinc5, j_iload6, j_aload6, j_istore6, j_astore6, j_iinc6, j_iload7, j_aload7, j_istore7, j_astore7, j_iinc7, j_iload8, j_aload8, j_istore8, j_astore8, j_iinc8, j_iadd, j_isub, j_imul, j_iand, j_ior, j_ixor, j_ishl, j_ishr, j_iushr, j_idiv, j_irem, j_ineg, j_ladd, j_lmul, j_land, j_lor, j_lcmp, j_lushr, j_lshl, j_i2l, j_l2i, j_dupI, j_dupR, j_popI, j_dup2, j_ifeq, j_iceq, j_ifne, j_icne, j_iflt, j_iclt, j_ifge, j_icge, j_ifgt, j_icgt, j_ifle, j_icle, j_goto, j_tsw, j_sw0, j_sw1, j_ireturn, j_zreturn, j_lreturn, j_return, j_getfield, j_putI, j_putJ, j_putR, j_iaload, j_baload, j_iastore, j_bastore, j_aaload, j_q, j_aastore, j_acopy, j_mmin, j_mmax, j_mabs, j_objinit, j_new, j_newI, j_newQ, j_sld, j_slen, j_callV0, j_callI0, j_callS0, j_callV1, j_callI1, j_callS1, j_callV2, j_callI2, j_callS2, j_callV3, j_callS3, j_callV4, j_callS4, j_callV5, j_callS5, j_pushS, j_pushN, j_sh0, j_sh1, j_sh2, j_sh3, j_sh4, Int32.reduceAdd, Int32.reduceMul, Int32.reduceSub, Int32.reduceLT, Int32.reduceLE, eq_self, i32_10, i32_01, ne_eq, hrow_s, hrow_n, ne10, ne100, ne1000, ne7, ne4, ne14, ne9973, or_true, true_or, or_false, false_or, not_true_eq_false, not_false_eq_true, false_implies, implies_true, and_true, forall_const, true_implies, jargs_n, jargs_r, jargs_i, List.cons_append, List.nil_append, true_and, Nat.reduceEqDiff, reduceIte, ft_X0_changeStates_0, ft_X0_changeStates_1, ft_X0_changeStates_2, ft_X0_changeStates_3, ft_X0_changeStates_4, ft_X0_changeStates_7, ft_X0_changeStates_10, ft_X0_changeStates_13, ft_X0_changeStates_14, ft_X0_changeStates_15, ft_X0_changeStates_16, ft_X0_changeStates_19, ft_X0_changeStates_21, ft_X0_changeStates_22, ft_X0_changeStates_23, ft_X0_changeStates_24, ft_X0_changeStates_25, ft_X0_changeStates_28, ft_X0_changeStates_31, ft_X0_changeStates_34, ft_X0_changeStates_35, ft_X0_changeStates_38, ft_X0_changeStates_39, ft_X0_changeStates_41, ft_X0_changeStates_43, ft_X0_changeStates_44, ft_X0_changeStates_47, ft_X0_changeStates_48, ft_X0_changeStates_49, ft_X0_changeStates_50, ft_X0_changeStates_51, ft_X0_changeStates_54, ft_X0_changeStates_57, ft_X0_changeStates_59, ft_X0_changeStates_60, ft_X0_changeStates_63, ft_X0_changeStates_65, ft_X0_changeStates_68, ft_X0_changeStates_69, ft_X0_changeStates_70, ft_X0_changeStates_71, ft_X0_changeStates_72, ft_X0_changeStates_75, ft_X0_changeStates_78, ft_X0_changeStates_80, ft_X0_changeStates_81, ft_X0_changeStates_84, ft_X0_changeStates_86, ft_X0_changeStates_89, ft_X0_changeStates_90, ft_X0_changeStates_91, ft_X0_changeStates_92, ft_X0_changeStates_93, ft_X0_changeStates_96, ft_X0_changeStates_99, ft_X0_changeStates_102, fl_6_0, fl_3_2, rc_6, (jst_ne hs).1, (jst_ne hs).2.2.1, hP, hc, nI_1, s_X0_growOlder hs, s_X4_get hs, s_X4_restOf hs, s_X4_set hs, jrcv_st hs, hrow_hrow]
    unfold stStep at hk
    by_cases h1 : rrest ρ (rget ρ (nI j) 1) = 0
    · by_cases h2 : rget ρ (nI j) 2 = 1
      · simp [pick, h1, h2] at hk ⊢; exact hk _ _
      · by_cases h3 : rget ρ (nI j) 2 = 2
        · simp [pick, h1, h3] at hk ⊢; exact hk _ _
        · by_cases h4 : rget ρ (nI j) 2 = 3 <;> simp [pick, h1, h2, h3, h4] at hk ⊢ <;> exact hk _ _
    · by_cases h2 : rget ρ (nI j) 2 = 1
      · simp [pick, h1, h2] at hk ⊢; exact hk _ _
      · by_cases h3 : rget ρ (nI j) 2 = 2
        · simp [pick, h1, h3] at hk ⊢; exact hk _ _
        · by_cases h4 : rget ρ (nI j) 2 = 3 <;> simp [pick, h1, h2, h3, h4] at hk ⊢ <;> exact hk _ _
theorem ok_X0_changeStates : jMeets Y_X0_changeStates S_X0_changeStates := by
  intro nb vs mem Q h
  obtain ⟨C, z, s, P, l, rfl, rfl, hs, hP, hP4, hQ⟩ := h
  refine Ok.run OK_X0_changeStates [2] 60 [none, none, none] pn0 (Nat.le_of_ble_eq_true rfl) rfl ?_
  simp -implicitDefEqProofs only [jr_0, jr_1, jr_2, j_iconst, j_lconst, j_iload0, j_aload0, j_istore0, j_astore0, j_iinc0, j_iload1, j_aload1, j_istore1, j_astore1, j_iinc1, j_iload2, j_aload2, j_istore2, j_astore2, j_iinc2, j_iload3, j_aload3, j_istore3, j_astore3, j_iinc3, j_iload4, j_aload4, j_istore4, j_astore4, j_iinc4, j_iload5, j_aload5, j_istore5, j_astore5, j_iinc5, j_iload6, j_aload6, j_istore6, j_astore6, j_iinc6, j_iload7, j_aload7, j_istore7, j_astore7, j_iinc7, j_iload8, j_aload8, j_istore8, j_astore8, j_iinc8, j_iadd, j_isub, j_imul, j_iand, j_ior, j_ixor, j_ishl, j_ishr, j_iushr, j_idiv, j_irem, j_ineg, j_ladd, j_lmul, j_land, j_lor, j_lcmp, j_lushr, j_lshl, j_i2l, j_l2i, j_dupI, j_dupR, j_popI, j_dup2, j_ifeq, j_iceq, j_ifne, j_icne, j_iflt, j_iclt, j_ifge, j_icge, j_ifgt, j_icgt, j_ifle, j_icle, j_goto, j_tsw, j_sw0, j_sw1, j_ireturn, j_zreturn, j_lreturn, j_return, j_getfield, j_putI, j_putJ, j_putR, j_iaload, j_baload, j_iastore, j_bastore, j_aaload, j_q, j_aastore, j_acopy, j_mmin, j_mmax, j_mabs, j_objinit, j_new, j_newI, j_newQ, j_sld, j_slen, j_callV0, j_callI0, j_callS0, j_callV1, j_callI1, j_callS1, j_callV2, j_callI2, j_callS2, j_callV3, j_callS3, j_callV4, j_callS4, j_callV5, j_callS5, j_pushS, j_pushN, j_sh0, j_sh1, j_sh2, j_sh3, j_sh4, Int32.reduceAdd, Int32.reduceMul, Int32.reduceSub, Int32.reduceLT, Int32.reduceLE, eq_self, i32_10, i32_01, ne_eq, hrow_s, hrow_n, ne10, ne100, ne1000, ne7, ne4, ne14, ne9973, or_true, true_or, or_false, false_or, not_true_eq_false, not_false_eq_true, false_implies, implies_true, and_true, forall_const, true_implies, jargs_n, jargs_r, jargs_i, List.cons_append, List.nil_append, true_and, Nat.reduceEqDiff, reduceIte, ft_X0_changeStates_0, ft_X0_changeStates_1, ft_X0_changeStates_2, ft_X0_changeStates_3, ft_X0_changeStates_4, ft_X0_changeStates_7, ft_X0_changeStates_10, ft_X0_changeStates_13, ft_X0_changeStates_14, ft_X0_changeStates_15, ft_X0_changeStates_16, ft_X0_changeStates_19, ft_X0_changeStates_21, ft_X0_changeStates_22, ft_X0_changeStates_23, ft_X0_changeStates_24, ft_X0_changeStates_25, ft_X0_changeStates_28, ft_X0_changeStates_31, ft_X0_changeStates_34, ft_X0_changeStates_35, ft_X0_changeStates_38, ft_X0_changeStates_39, ft_X0_changeStates_41, ft_X0_changeStates_43, ft_X0_changeStates_44, ft_X0_changeStates_47, ft_X0_changeStates_48, ft_X0_changeStates_49, ft_X0_changeStates_50, ft_X0_changeStates_51, ft_X0_changeStates_54, ft_X0_changeStates_57, ft_X0_changeStates_59, ft_X0_changeStates_60, ft_X0_changeStates_63, ft_X0_changeStates_65, ft_X0_changeStates_68, ft_X0_changeStates_69, ft_X0_changeStates_70, ft_X0_changeStates_71, ft_X0_changeStates_72, ft_X0_changeStates_75, ft_X0_changeStates_78, ft_X0_changeStates_80, ft_X0_changeStates_81, ft_X0_changeStates_84, ft_X0_changeStates_86, ft_X0_changeStates_89, ft_X0_changeStates_90, ft_X0_changeStates_91, ft_X0_changeStates_92, ft_X0_changeStates_93, ft_X0_changeStates_96, ft_X0_changeStates_99, ft_X0_changeStates_102]
  have := lp_X0_changeStates hs hP hP4 hQ P 0 (by omega) none none (nb := nb)
  rw [show foldP (stStep (C 5) l) (C s) 0 = C s from rfl, hrow_self] at this
  exact this
theorem s_X0_changeStates {nb s P : Nat} {C : Nat → Nat → Int32} {z : Nat → Int64} {l : Int32} {Q : jQ} (hs : jSt s 94) (hP : C 3 2 = nI P) (hP4 : P ≤ 4) (hQ : Q none (memS 94 (hrow C s (foldP (stStep (C 5) l) (C s) P)) z)) : S_X0_changeStates nb [.ref 6, .ref s, .int l] (memS 94 C z) Q := ⟨C, z, s, P, l, rfl, rfl, hs, hP, hP4, hQ⟩
/-! arrange: insertion into the order; o is the row of the order, k how many stand in it -/
noncomputable def insF (T ρ : Nat → Int32) (p : Int32) : Nat → (Nat → Int32) → (Nat → Int32)
  | 0, o => upd o 0 p
  | a + 1, o => pick (overF T ρ p (o a)) (insF T ρ p a (upd o (a + 1) (o a))) (upd o (a + 1) p)
def onP (ρ : Nat → Int32) (fed p : Int32) : Prop := rget ρ p 2 = 3 ∧ hasP fed p
noncomputable def ordF (T ρ : Nat → Int32) (fed : Int32) (o : Nat → Int32) : Nat → (Nat → Int32) × Nat
  | 0 => (o, 0)
  | p + 1 => pick (onP ρ fed (nI p)) (insF T ρ (nI p) (ordF T ρ fed o p).2 (ordF T ρ fed o p).1, (ordF T ρ fed o p).2 + 1) (ordF T ρ fed o p)
theorem ordF_le {T ρ : Nat → Int32} {fed : Int32} {o : Nat → Int32} : ∀ p, (ordF T ρ fed o p).2 ≤ p
  | 0 => Nat.le_refl _
  | p + 1 => by
    have ih := ordF_le (T := T) (ρ := ρ) (fed := fed) (o := o) p
    unfold ordF
    by_cases h : onP ρ fed (nI p)
    · rw [pick_t h]; show (ordF T ρ fed o p).2 + 1 ≤ p + 1; omega
    · rw [pick_f h]; omega
def S_X0_arrange : jSp := fun _ vs mem Q => ∃ C z s, ∃ fed : Int32, vs = [.ref 6, .ref s, .int fed] ∧ mem = memS 94 C z ∧ jSt s 94 ∧ Q (some (.int (nI (ordF (C 5) (C s) fed (C 7) 4).2))) (memS 94 (hrow C 7 (ordF (C 5) (C s) fed (C 7) 4).1) z)
def F_X0_arrange_0 : Nat → jT := fun pc => (bif Nat.blt pc 11 then (bif Nat.blt pc 3 then (bif Nat.blt pc 1 then (bif Nat.beq pc 0 then J_iconst 0 1 else jbad) else (bif Nat.blt pc 2 then (bif Nat.beq pc 1 then J_istore 3 2 else jbad) else (bif Nat.beq pc 2 then J_iconst 0 3 else jbad))) else (bif Nat.blt pc 7 then (bif Nat.blt pc 5 then (bif Nat.beq pc 3 then J_istore 4 5 else jbad) else (bif Nat.beq pc 5 then J_iload 4 7 else jbad)) else (bif Nat.blt pc 8 then (bif Nat.beq pc 7 then J_iconst 4 8 else jbad) else (bif Nat.beq pc 8 then J_icge 103 11 else jbad)))) else (bif Nat.blt pc 16 then (bif Nat.blt pc 12 then (bif Nat.beq pc 11 then J_iload 3 12 else jbad) else (bif Nat.blt pc 13 then (bif Nat.beq pc 12 then J_iconst 4 13 else jbad) else (bif Nat.beq pc 13 then J_icge 103 16 else jbad))) else (bif Nat.blt pc 19 then (bif Nat.blt pc 17 then (bif Nat.beq pc 16 then J_aload 1 17 else jbad) else (bif Nat.beq pc 17 then J_iload 4 19 else jbad)) else (bif Nat.blt pc 20 then (bif Nat.beq pc 19 then J_iconst 2 20 else jbad) else (bif Nat.beq pc 20 then J_callV 4 S_X4_get 2 23 else jbad)))))
theorem ftl_X0_arrange_0 : F_X0_arrange_0 0 = J_iconst 0 1 := rfl
theorem ftl_X0_arrange_1 : F_X0_arrange_0 1 = J_istore 3 2 := rfl
theorem ftl_X0_arrange_2 : F_X0_arrange_0 2 = J_iconst 0 3 := rfl
theorem ftl_X0_arrange_3 : F_X0_arrange_0 3 = J_istore 4 5 := rfl
theorem ftl_X0_arrange_5 : F_X0_arrange_0 5 = J_iload 4 7 := rfl
theorem ftl_X0_arrange_7 : F_X0_arrange_0 7 = J_iconst 4 8 := rfl
theorem ftl_X0_arrange_8 : F_X0_arrange_0 8 = J_icge 103 11 := rfl
theorem ftl_X0_arrange_11 : F_X0_arrange_0 11 = J_iload 3 12 := rfl
theorem ftl_X0_arrange_12 : F_X0_arrange_0 12 = J_iconst 4 13 := rfl
theorem ftl_X0_arrange_13 : F_X0_arrange_0 13 = J_icge 103 16 := rfl
theorem ftl_X0_arrange_16 : F_X0_arrange_0 16 = J_aload 1 17 := rfl
theorem ftl_X0_arrange_17 : F_X0_arrange_0 17 = J_iload 4 19 := rfl
theorem ftl_X0_arrange_19 : F_X0_arrange_0 19 = J_iconst 2 20 := rfl
theorem ftl_X0_arrange_20 : F_X0_arrange_0 20 = J_callV 4 S_X4_get 2 23 := rfl
theorem F_X0_arrange_0_ok : jOK Y_X0_arrange none (F_X0_arrange_0) := (jOK_node (jOK_node (jOK_node (jOK_leaf (sn_iconst dX0_arrange_0 rfl rfl)) (jOK_node (jOK_leaf (sn_istore_n dX0_arrange_1 rfl rfl (by decide))) (jOK_leaf (sn_iconst dX0_arrange_2 rfl rfl)))) (jOK_node (jOK_node (jOK_leaf (sn_istore dX0_arrange_3 rfl (by decide))) (jOK_leaf (sn_iload dX0_arrange_5 rfl))) (jOK_node (jOK_leaf (sn_iconst dX0_arrange_7 rfl rfl)) (jOK_leaf (sn_icge dX0_arrange_8 rfl rfl))))) (jOK_node (jOK_node (jOK_leaf (sn_iload_n dX0_arrange_11 rfl rfl)) (jOK_node (jOK_leaf (sn_iconst dX0_arrange_12 rfl rfl)) (jOK_leaf (sn_icge dX0_arrange_13 rfl rfl)))) (jOK_node (jOK_node (jOK_leaf (sn_aload_n dX0_arrange_16 rfl rfl)) (jOK_leaf (sn_iload dX0_arrange_17 rfl))) (jOK_node (jOK_leaf (sn_iconst dX0_arrange_19 rfl rfl)) (jOK_leaf (sn_callV (Y' := Y_X4_get) ok_X4_get dX0_arrange_20 rfl rfl rfl tw_306 tw_267 tw_268 tw_5 jc_X4_get rfl ⟨by decide, by decide, rfl⟩ ⟨by decide, by decide⟩))))))
def F_X0_arrange_23 : Nat → jT := fun pc => (bif Nat.blt pc 37 then (bif Nat.blt pc 28 then (bif Nat.blt pc 24 then (bif Nat.beq pc 23 then J_iconst 3 24 else jbad) else (bif Nat.blt pc 27 then (bif Nat.beq pc 24 then J_icne 97 27 else jbad) else (bif Nat.beq pc 27 then J_iload 2 28 else jbad))) else (bif Nat.blt pc 33 then (bif Nat.blt pc 30 then (bif Nat.beq pc 28 then J_iload 4 30 else jbad) else (bif Nat.beq pc 30 then J_callS S_X6_has 2 33 else jbad)) else (bif Nat.blt pc 36 then (bif Nat.beq pc 33 then J_ifeq 97 36 else jbad) else (bif Nat.beq pc 36 then J_iload 3 37 else jbad)))) else (bif Nat.blt pc 44 then (bif Nat.blt pc 39 then (bif Nat.beq pc 37 then J_istore 5 39 else jbad) else (bif Nat.blt pc 41 then (bif Nat.beq pc 39 then J_iload 5 41 else jbad) else (bif Nat.beq pc 41 then J_ifle 85 44 else jbad))) else (bif Nat.blt pc 46 then (bif Nat.blt pc 45 then (bif Nat.beq pc 44 then J_aload 0 45 else jbad) else (bif Nat.beq pc 45 then J_aload 1 46 else jbad)) else (bif Nat.blt pc 48 then (bif Nat.beq pc 46 then J_iload 4 48 else jbad) else (bif Nat.beq pc 48 then J_aload 0 49 else jbad)))))
theorem ftl_X0_arrange_23 : F_X0_arrange_23 23 = J_iconst 3 24 := rfl
theorem ftl_X0_arrange_24 : F_X0_arrange_23 24 = J_icne 97 27 := rfl
theorem ftl_X0_arrange_27 : F_X0_arrange_23 27 = J_iload 2 28 := rfl
theorem ftl_X0_arrange_28 : F_X0_arrange_23 28 = J_iload 4 30 := rfl
theorem ftl_X0_arrange_30 : F_X0_arrange_23 30 = J_callS S_X6_has 2 33 := rfl
theorem ftl_X0_arrange_33 : F_X0_arrange_23 33 = J_ifeq 97 36 := rfl
theorem ftl_X0_arrange_36 : F_X0_arrange_23 36 = J_iload 3 37 := rfl
theorem ftl_X0_arrange_37 : F_X0_arrange_23 37 = J_istore 5 39 := rfl
theorem ftl_X0_arrange_39 : F_X0_arrange_23 39 = J_iload 5 41 := rfl
theorem ftl_X0_arrange_41 : F_X0_arrange_23 41 = J_ifle 85 44 := rfl
theorem ftl_X0_arrange_44 : F_X0_arrange_23 44 = J_aload 0 45 := rfl
theorem ftl_X0_arrange_45 : F_X0_arrange_23 45 = J_aload 1 46 := rfl
theorem ftl_X0_arrange_46 : F_X0_arrange_23 46 = J_iload 4 48 := rfl
theorem ftl_X0_arrange_48 : F_X0_arrange_23 48 = J_aload 0 49 := rfl
theorem F_X0_arrange_23_ok : jOK Y_X0_arrange none (F_X0_arrange_23) := (jOK_node (jOK_node (jOK_node (jOK_leaf (sn_iconst dX0_arrange_23 rfl rfl)) (jOK_node (jOK_leaf (sn_icne dX0_arrange_24 rfl rfl)) (jOK_leaf (sn_iload_n dX0_arrange_27 rfl rfl)))) (jOK_node (jOK_node (jOK_leaf (sn_iload dX0_arrange_28 rfl)) (jOK_leaf (sn_callSN (Y' := Y_X6_has) (host := "ChargePosts") ok_X6_has dX0_arrange_30 rfl rfl (List.mem_of_getElem? (i := 5) rfl) tw_308 tw_1 jc_X6_has ⟨by decide, by decide, rfl⟩ ⟨by decide, by decide⟩))) (jOK_node (jOK_leaf (sn_ifeq dX0_arrange_33 rfl rfl)) (jOK_leaf (sn_iload_n dX0_arrange_36 rfl rfl))))) (jOK_node (jOK_node (jOK_leaf (sn_istore dX0_arrange_37 rfl (by decide))) (jOK_node (jOK_leaf (sn_iload dX0_arrange_39 rfl)) (jOK_leaf (sn_ifle dX0_arrange_41 rfl rfl)))) (jOK_node (jOK_node (jOK_leaf (sn_aload_n dX0_arrange_44 rfl rfl)) (jOK_leaf (sn_aload_n dX0_arrange_45 rfl rfl))) (jOK_node (jOK_leaf (sn_iload dX0_arrange_46 rfl)) (jOK_leaf (sn_aload_n dX0_arrange_48 rfl rfl))))))
def F_X0_arrange_0_48 : Nat → jT := fun pc => bif Nat.blt pc 23 then F_X0_arrange_0 pc else F_X0_arrange_23 pc
theorem F_X0_arrange_0_48_ok : jOK Y_X0_arrange none (F_X0_arrange_0_48) := jOK_node (F_X0_arrange_0_ok) (F_X0_arrange_23_ok)
def F_X0_arrange_49 : Nat → jT := fun pc => (bif Nat.blt pc 63 then (bif Nat.blt pc 55 then (bif Nat.blt pc 52 then (bif Nat.beq pc 49 then J_getfield 0 1 52 else jbad) else (bif Nat.blt pc 54 then (bif Nat.beq pc 52 then J_iload 5 54 else jbad) else (bif Nat.beq pc 54 then J_iconst 1 55 else jbad))) else (bif Nat.blt pc 57 then (bif Nat.blt pc 56 then (bif Nat.beq pc 55 then J_isub 56 else jbad) else (bif Nat.beq pc 56 then J_iaload 57 else jbad)) else (bif Nat.blt pc 60 then (bif Nat.beq pc 57 then J_callV 0 S_X0_overtakes 3 60 else jbad) else (bif Nat.beq pc 60 then J_ifeq 85 63 else jbad)))) else (bif Nat.blt pc 69 then (bif Nat.blt pc 64 then (bif Nat.beq pc 63 then J_aload 0 64 else jbad) else (bif Nat.blt pc 67 then (bif Nat.beq pc 64 then J_getfield 0 1 67 else jbad) else (bif Nat.beq pc 67 then J_iload 5 69 else jbad))) else (bif Nat.blt pc 73 then (bif Nat.blt pc 70 then (bif Nat.beq pc 69 then J_aload 0 70 else jbad) else (bif Nat.beq pc 70 then J_getfield 0 1 73 else jbad)) else (bif Nat.blt pc 75 then (bif Nat.beq pc 73 then J_iload 5 75 else jbad) else (bif Nat.beq pc 75 then J_iconst 1 76 else jbad)))))
theorem ftl_X0_arrange_49 : F_X0_arrange_49 49 = J_getfield 0 1 52 := rfl
theorem ftl_X0_arrange_52 : F_X0_arrange_49 52 = J_iload 5 54 := rfl
theorem ftl_X0_arrange_54 : F_X0_arrange_49 54 = J_iconst 1 55 := rfl
theorem ftl_X0_arrange_55 : F_X0_arrange_49 55 = J_isub 56 := rfl
theorem ftl_X0_arrange_56 : F_X0_arrange_49 56 = J_iaload 57 := rfl
theorem ftl_X0_arrange_57 : F_X0_arrange_49 57 = J_callV 0 S_X0_overtakes 3 60 := rfl
theorem ftl_X0_arrange_60 : F_X0_arrange_49 60 = J_ifeq 85 63 := rfl
theorem ftl_X0_arrange_63 : F_X0_arrange_49 63 = J_aload 0 64 := rfl
theorem ftl_X0_arrange_64 : F_X0_arrange_49 64 = J_getfield 0 1 67 := rfl
theorem ftl_X0_arrange_67 : F_X0_arrange_49 67 = J_iload 5 69 := rfl
theorem ftl_X0_arrange_69 : F_X0_arrange_49 69 = J_aload 0 70 := rfl
theorem ftl_X0_arrange_70 : F_X0_arrange_49 70 = J_getfield 0 1 73 := rfl
theorem ftl_X0_arrange_73 : F_X0_arrange_49 73 = J_iload 5 75 := rfl
theorem ftl_X0_arrange_75 : F_X0_arrange_49 75 = J_iconst 1 76 := rfl
theorem F_X0_arrange_49_ok : jOK Y_X0_arrange none (F_X0_arrange_49) := (jOK_node (jOK_node (jOK_node (jOK_leaf (sn_getfield dX0_arrange_49 rfl rfl (by decide) tw_74 jin0)) (jOK_node (jOK_leaf (sn_iload dX0_arrange_52 rfl)) (jOK_leaf (sn_iconst dX0_arrange_54 rfl rfl)))) (jOK_node (jOK_node (jOK_leaf (sn_isub dX0_arrange_55 rfl)) (jOK_leaf (sn_iaload dX0_arrange_56 rfl))) (jOK_node (jOK_leaf (sn_callV (Y' := Y_X0_overtakes) ok_X0_overtakes dX0_arrange_57 rfl rfl rfl tw_310 tw_312 tp_7 tw_4 jc_X0_overtakes rfl ⟨by decide, by decide, rfl⟩ ⟨by decide, by decide⟩)) (jOK_leaf (sn_ifeq dX0_arrange_60 rfl rfl))))) (jOK_node (jOK_node (jOK_leaf (sn_aload_n dX0_arrange_63 rfl rfl)) (jOK_node (jOK_leaf (sn_getfield dX0_arrange_64 rfl rfl (by decide) tw_74 jin0)) (jOK_leaf (sn_iload dX0_arrange_67 rfl)))) (jOK_node (jOK_node (jOK_leaf (sn_aload_n dX0_arrange_69 rfl rfl)) (jOK_leaf (sn_getfield dX0_arrange_70 rfl rfl (by decide) tw_74 jin0))) (jOK_node (jOK_leaf (sn_iload dX0_arrange_73 rfl)) (jOK_leaf (sn_iconst dX0_arrange_75 rfl rfl))))))
def F_X0_arrange_76 : Nat → jT := fun pc => (bif Nat.blt pc 89 then (bif Nat.blt pc 79 then (bif Nat.blt pc 77 then (bif Nat.beq pc 76 then J_isub 77 else jbad) else (bif Nat.blt pc 78 then (bif Nat.beq pc 77 then J_iaload 78 else jbad) else (bif Nat.beq pc 78 then J_iastore 79 else jbad))) else (bif Nat.blt pc 85 then (bif Nat.blt pc 82 then (bif Nat.beq pc 79 then J_iinc 5 (-1) 82 else jbad) else (bif Nat.beq pc 82 then J_goto 39 else jbad)) else (bif Nat.blt pc 86 then (bif Nat.beq pc 85 then J_aload 0 86 else jbad) else (bif Nat.beq pc 86 then J_getfield 0 1 89 else jbad)))) else (bif Nat.blt pc 97 then (bif Nat.blt pc 93 then (bif Nat.blt pc 91 then (bif Nat.beq pc 89 then J_iload 5 91 else jbad) else (bif Nat.beq pc 91 then J_iload 4 93 else jbad)) else (bif Nat.blt pc 94 then (bif Nat.beq pc 93 then J_iastore 94 else jbad) else (bif Nat.beq pc 94 then J_iinc 3 1 97 else jbad))) else (bif Nat.blt pc 103 then (bif Nat.blt pc 100 then (bif Nat.beq pc 97 then J_iinc 4 1 100 else jbad) else (bif Nat.beq pc 100 then J_goto 5 else jbad)) else (bif Nat.blt pc 104 then (bif Nat.beq pc 103 then J_iload 3 104 else jbad) else (bif Nat.beq pc 104 then J_ireturn 0 0 else jbad)))))
theorem ftl_X0_arrange_76 : F_X0_arrange_76 76 = J_isub 77 := rfl
theorem ftl_X0_arrange_77 : F_X0_arrange_76 77 = J_iaload 78 := rfl
theorem ftl_X0_arrange_78 : F_X0_arrange_76 78 = J_iastore 79 := rfl
theorem ftl_X0_arrange_79 : F_X0_arrange_76 79 = J_iinc 5 (-1) 82 := rfl
theorem ftl_X0_arrange_82 : F_X0_arrange_76 82 = J_goto 39 := rfl
theorem ftl_X0_arrange_85 : F_X0_arrange_76 85 = J_aload 0 86 := rfl
theorem ftl_X0_arrange_86 : F_X0_arrange_76 86 = J_getfield 0 1 89 := rfl
theorem ftl_X0_arrange_89 : F_X0_arrange_76 89 = J_iload 5 91 := rfl
theorem ftl_X0_arrange_91 : F_X0_arrange_76 91 = J_iload 4 93 := rfl
theorem ftl_X0_arrange_93 : F_X0_arrange_76 93 = J_iastore 94 := rfl
theorem ftl_X0_arrange_94 : F_X0_arrange_76 94 = J_iinc 3 1 97 := rfl
theorem ftl_X0_arrange_97 : F_X0_arrange_76 97 = J_iinc 4 1 100 := rfl
theorem ftl_X0_arrange_100 : F_X0_arrange_76 100 = J_goto 5 := rfl
theorem ftl_X0_arrange_103 : F_X0_arrange_76 103 = J_iload 3 104 := rfl
theorem ftl_X0_arrange_104 : F_X0_arrange_76 104 = J_ireturn 0 0 := rfl
theorem F_X0_arrange_76_ok : jOK Y_X0_arrange none (F_X0_arrange_76) := (jOK_node (jOK_node (jOK_node (jOK_leaf (sn_isub dX0_arrange_76 rfl)) (jOK_node (jOK_leaf (sn_iaload dX0_arrange_77 rfl)) (jOK_leaf (sn_iastore dX0_arrange_78 rfl)))) (jOK_node (jOK_node (jOK_leaf (sn_iinc dX0_arrange_79 rfl rfl (by decide))) (jOK_leaf (sn_goto dX0_arrange_82 rfl))) (jOK_node (jOK_leaf (sn_aload_n dX0_arrange_85 rfl rfl)) (jOK_leaf (sn_getfield dX0_arrange_86 rfl rfl (by decide) tw_74 jin0))))) (jOK_node (jOK_node (jOK_node (jOK_leaf (sn_iload dX0_arrange_89 rfl)) (jOK_leaf (sn_iload dX0_arrange_91 rfl))) (jOK_node (jOK_leaf (sn_iastore dX0_arrange_93 rfl)) (jOK_leaf (sn_iinc dX0_arrange_94 rfl rfl (by decide))))) (jOK_node (jOK_node (jOK_leaf (sn_iinc dX0_arrange_97 rfl rfl (by decide))) (jOK_leaf (sn_goto dX0_arrange_100 rfl))) (jOK_node (jOK_leaf (sn_iload_n dX0_arrange_103 rfl rfl)) (jOK_leaf (sn_ireturn dX0_arrange_104 rfl rfl))))))
def F_X0_arrange_49_104 : Nat → jT := fun pc => bif Nat.blt pc 76 then F_X0_arrange_49 pc else F_X0_arrange_76 pc
theorem F_X0_arrange_49_104_ok : jOK Y_X0_arrange none (F_X0_arrange_49_104) := jOK_node (F_X0_arrange_49_ok) (F_X0_arrange_76_ok)
def F_X0_arrange_0_104 : Nat → jT := fun pc => bif Nat.blt pc 49 then F_X0_arrange_0_48 pc else F_X0_arrange_49_104 pc
theorem F_X0_arrange_0_104_ok : jOK Y_X0_arrange none (F_X0_arrange_0_104) := jOK_node (F_X0_arrange_0_48_ok) (F_X0_arrange_49_104_ok)
def F_X0_arrange : Nat → jT := F_X0_arrange_0_104
theorem OK_X0_arrange : jOK Y_X0_arrange none (F_X0_arrange) := F_X0_arrange_0_104_ok
theorem ft_X0_arrange_0 : F_X0_arrange 0 = J_iconst 0 1 := ftl_X0_arrange_0
theorem ft_X0_arrange_1 : F_X0_arrange 1 = J_istore 3 2 := ftl_X0_arrange_1
theorem ft_X0_arrange_2 : F_X0_arrange 2 = J_iconst 0 3 := ftl_X0_arrange_2
theorem ft_X0_arrange_3 : F_X0_arrange 3 = J_istore 4 5 := ftl_X0_arrange_3
theorem ft_X0_arrange_5 : F_X0_arrange 5 = J_iload 4 7 := ftl_X0_arrange_5
theorem ft_X0_arrange_7 : F_X0_arrange 7 = J_iconst 4 8 := ftl_X0_arrange_7
theorem ft_X0_arrange_8 : F_X0_arrange 8 = J_icge 103 11 := ftl_X0_arrange_8
theorem ft_X0_arrange_11 : F_X0_arrange 11 = J_iload 3 12 := ftl_X0_arrange_11
theorem ft_X0_arrange_12 : F_X0_arrange 12 = J_iconst 4 13 := ftl_X0_arrange_12
theorem ft_X0_arrange_13 : F_X0_arrange 13 = J_icge 103 16 := ftl_X0_arrange_13
theorem ft_X0_arrange_16 : F_X0_arrange 16 = J_aload 1 17 := ftl_X0_arrange_16
theorem ft_X0_arrange_17 : F_X0_arrange 17 = J_iload 4 19 := ftl_X0_arrange_17
theorem ft_X0_arrange_19 : F_X0_arrange 19 = J_iconst 2 20 := ftl_X0_arrange_19
theorem ft_X0_arrange_20 : F_X0_arrange 20 = J_callV 4 S_X4_get 2 23 := ftl_X0_arrange_20
theorem ft_X0_arrange_23 : F_X0_arrange 23 = J_iconst 3 24 := ftl_X0_arrange_23
theorem ft_X0_arrange_24 : F_X0_arrange 24 = J_icne 97 27 := ftl_X0_arrange_24
theorem ft_X0_arrange_27 : F_X0_arrange 27 = J_iload 2 28 := ftl_X0_arrange_27
theorem ft_X0_arrange_28 : F_X0_arrange 28 = J_iload 4 30 := ftl_X0_arrange_28
theorem ft_X0_arrange_30 : F_X0_arrange 30 = J_callS S_X6_has 2 33 := ftl_X0_arrange_30
theorem ft_X0_arrange_33 : F_X0_arrange 33 = J_ifeq 97 36 := ftl_X0_arrange_33
theorem ft_X0_arrange_36 : F_X0_arrange 36 = J_iload 3 37 := ftl_X0_arrange_36
theorem ft_X0_arrange_37 : F_X0_arrange 37 = J_istore 5 39 := ftl_X0_arrange_37
theorem ft_X0_arrange_39 : F_X0_arrange 39 = J_iload 5 41 := ftl_X0_arrange_39
theorem ft_X0_arrange_41 : F_X0_arrange 41 = J_ifle 85 44 := ftl_X0_arrange_41
theorem ft_X0_arrange_44 : F_X0_arrange 44 = J_aload 0 45 := ftl_X0_arrange_44
theorem ft_X0_arrange_45 : F_X0_arrange 45 = J_aload 1 46 := ftl_X0_arrange_45
theorem ft_X0_arrange_46 : F_X0_arrange 46 = J_iload 4 48 := ftl_X0_arrange_46
theorem ft_X0_arrange_48 : F_X0_arrange 48 = J_aload 0 49 := ftl_X0_arrange_48
theorem ft_X0_arrange_49 : F_X0_arrange 49 = J_getfield 0 1 52 := ftl_X0_arrange_49
theorem ft_X0_arrange_52 : F_X0_arrange 52 = J_iload 5 54 := ftl_X0_arrange_52
theorem ft_X0_arrange_54 : F_X0_arrange 54 = J_iconst 1 55 := ftl_X0_arrange_54
theorem ft_X0_arrange_55 : F_X0_arrange 55 = J_isub 56 := ftl_X0_arrange_55
theorem ft_X0_arrange_56 : F_X0_arrange 56 = J_iaload 57 := ftl_X0_arrange_56
theorem ft_X0_arrange_57 : F_X0_arrange 57 = J_callV 0 S_X0_overtakes 3 60 := ftl_X0_arrange_57
theorem ft_X0_arrange_60 : F_X0_arrange 60 = J_ifeq 85 63 := ftl_X0_arrange_60
theorem ft_X0_arrange_63 : F_X0_arrange 63 = J_aload 0 64 := ftl_X0_arrange_63
theorem ft_X0_arrange_64 : F_X0_arrange 64 = J_getfield 0 1 67 := ftl_X0_arrange_64
theorem ft_X0_arrange_67 : F_X0_arrange 67 = J_iload 5 69 := ftl_X0_arrange_67
theorem ft_X0_arrange_69 : F_X0_arrange 69 = J_aload 0 70 := ftl_X0_arrange_69
theorem ft_X0_arrange_70 : F_X0_arrange 70 = J_getfield 0 1 73 := ftl_X0_arrange_70
theorem ft_X0_arrange_73 : F_X0_arrange 73 = J_iload 5 75 := ftl_X0_arrange_73
theorem ft_X0_arrange_75 : F_X0_arrange 75 = J_iconst 1 76 := ftl_X0_arrange_75
theorem ft_X0_arrange_76 : F_X0_arrange 76 = J_isub 77 := ftl_X0_arrange_76
theorem ft_X0_arrange_77 : F_X0_arrange 77 = J_iaload 78 := ftl_X0_arrange_77
theorem ft_X0_arrange_78 : F_X0_arrange 78 = J_iastore 79 := ftl_X0_arrange_78
theorem ft_X0_arrange_79 : F_X0_arrange 79 = J_iinc 5 (-1) 82 := ftl_X0_arrange_79
theorem ft_X0_arrange_82 : F_X0_arrange 82 = J_goto 39 := ftl_X0_arrange_82
theorem ft_X0_arrange_85 : F_X0_arrange 85 = J_aload 0 86 := ftl_X0_arrange_85
theorem ft_X0_arrange_86 : F_X0_arrange 86 = J_getfield 0 1 89 := ftl_X0_arrange_86
theorem ft_X0_arrange_89 : F_X0_arrange 89 = J_iload 5 91 := ftl_X0_arrange_89
theorem ft_X0_arrange_91 : F_X0_arrange 91 = J_iload 4 93 := ftl_X0_arrange_91
theorem ft_X0_arrange_93 : F_X0_arrange 93 = J_iastore 94 := ftl_X0_arrange_93
theorem ft_X0_arrange_94 : F_X0_arrange 94 = J_iinc 3 1 97 := ftl_X0_arrange_94
theorem ft_X0_arrange_97 : F_X0_arrange 97 = J_iinc 4 1 100 := ftl_X0_arrange_97
theorem ft_X0_arrange_100 : F_X0_arrange 100 = J_goto 5 := ftl_X0_arrange_100
theorem ft_X0_arrange_103 : F_X0_arrange 103 = J_iload 3 104 := ftl_X0_arrange_103
theorem ft_X0_arrange_104 : F_X0_arrange 104 = J_ireturn 0 0 := ftl_X0_arrange_104
theorem i32_pos {a : Nat} (h : a < 2 ^ 31) : (nI a ≤ 0) = (a = 0) := by
  cases a with
  | zero => simp [nI_0]
  | succ a => simp [nI_nle (Nat.succ_pos a) h]
theorem nI_s1 (a : Nat) : nI (a + 1) - 1 = nI a := nI_pred a
theorem nI_m1 (a : Nat) : nI (a + 1) + -1 = nI a := pk_m1 a
theorem lp_X0_arrange_in {Q : jQ} {C : Nat → Nat → Int32} {z : Nat → Int64} {nb s j k : Nat} {fed : Int32} (hs : jSt s 94) (hj : j < 4) : ∀ (a : Nat) (o : Nat → Int32), a ≤ j →
    (∀ x : Option Value, Rn Y_X0_arrange none Q 5 [some (.ref 6), some (.ref s), some (.int fed), some (.int (nI (k + 1))), some (.int (nI (j + 1))), x] [] (memS 94 (hrow C 7 (insF (C 5) (C s) (nI j) a o)) z) (nb, 0, 0)) →
    Rn Y_X0_arrange none Q 39 [some (.ref 6), some (.ref s), some (.int fed), some (.int (nI k)), some (.int (nI j)), some (.int (nI a))] [] (memS 94 (hrow C 7 o) z) (nb, 0, 0) := by
  have n7 : (s = 7) = False := by have := (jst_ne hs).2.2.2.1; simp only [eq_iff_iff, iff_false] at this ⊢; exact fun q => this q.symm
  intro a
  induction a with
  | zero =>
    intro o ha hx
    refine jrun_first OK_X0_arrange (C := [5, 39]) 60 ?_
    simp -implicitDefEqProofs only [jr_0, jr_1, jr_2, j_iconst, j_lconst, j_iload0, j_aload0, j_istore0, j_astore0, j_iinc0, j_iload1, j_aload1, j_istore1, j_astore1, j_iinc1, j_iload2, j_aload2, j_istore2, j_astore2, j_iinc2, j_iload3, j_aload3, j_istore3, j_astore3, j_iinc3, j_iload4, j_aload4, j_istore4, j_astore4, j_iinc4, j_iload5, j_aload5, j_istore5, j_astore5, j_iinc5, j_iload6, j_aload6, j_istore6, j_astore6, j_iinc6, j_iload7, j_aload7, j_istore7, j_astore7, j_iinc7, j_iload8, j_aload8, j_istore8, j_astore8, j_iinc8, j_iadd, j_isub, j_imul, j_iand, j_ior, j_ixor, j_ishl, j_ishr, j_iushr, j_idiv, j_irem, j_ineg, j_ladd, j_lmul, j_land, j_lor, j_lcmp, j_lushr, j_lshl, j_i2l, j_l2i, j_dupI, j_dupR, j_popI, j_dup2, j_ifeq, j_iceq, j_ifne, j_icne, j_iflt, j_iclt, j_ifge, j_icge, j_ifgt, j_icgt, j_ifle, j_icle, j_goto, j_tsw, j_sw0, j_sw1, j_ireturn, j_zreturn, j_lreturn, j_return, j_getfield, j_putI, j_putJ, j_putR, j_iaload, j_baload, j_iastore, j_bastore, j_aaload, j_q, j_aastore, j_acopy, j_mmin, j_mmax, j_mabs, j_objinit, j_new, j_newI, j_newQ, j_sld, j_slen, j_callV0, j_callI0, j_callS0, j_callV1, j_callI1, j_callS1, j_callV2, j_callI2, j_callS2, j_callV3, j_callS3, j_callV4, j_callS4, j_callV5, j_callS5, j_pushS, j_pushN, j_sh0, j_sh1, j_sh2, j_sh3, j_sh4, Int32.reduceAdd, Int32.reduceMul, Int32.reduceSub, Int32.reduceLT, Int32.reduceLE, eq_self, i32_10, i32_01, ne_eq, hrow_s, hrow_n, ne10, ne100, ne1000, ne7, ne4, ne14, ne9973, or_true, true_or, or_false, false_or, not_true_eq_false, not_false_eq_true, false_implies, implies_true, and_true, forall_const, true_implies, jargs_n, jargs_r, jargs_i, List.cons_append, List.nil_append, true_and, Nat.reduceEqDiff, reduceIte, ft_X0_arrange_0, ft_X0_arrange_1, ft_X0_arrange_2, ft_X0_arrange_3, ft_X0_arrange_5, ft_X0_arrange_7, ft_X0_arrange_8, ft_X0_arrange_11, ft_X0_arrange_12, ft_X0_arrange_13, ft_X0_arrange_16, ft_X0_arrange_17, ft_X0_arrange_19, ft_X0_arrange_20, ft_X0_arrange_23, ft_X0_arrange_24, ft_X0_arrange_27, ft_X0_arrange_28, ft_X0_arrange_30, ft_X0_arrange_33, ft_X0_arrange_36, ft_X0_arrange_37, ft_X0_arrange_39, ft_X0_arrange_41, ft_X0_arrange_44, ft_X0_arrange_45, ft_X0_arrange_46, ft_X0_arrange_48, ft_X0_arrange_49, ft_X0_arrange_52, ft_X0_arrange_54, ft_X0_arrange_55, ft_X0_arrange_56, ft_X0_arrange_57, ft_X0_arrange_60, ft_X0_arrange_63, ft_X0_arrange_64, ft_X0_arrange_67, ft_X0_arrange_69, ft_X0_arrange_70, ft_X0_arrange_73, ft_X0_arrange_75, ft_X0_arrange_76, ft_X0_arrange_77, ft_X0_arrange_78, ft_X0_arrange_79, ft_X0_arrange_82, ft_X0_arrange_85, ft_X0_arrange_86, ft_X0_arrange_89, ft_X0_arrange_91, ft_X0_arrange_93, ft_X0_arrange_94, ft_X0_arrange_97, ft_X0_arrange_100, ft_X0_arrange_103, ft_X0_arrange_104, fl_6_1, as_7, hrow_hrow, i32_pos (show (0 : Nat) < 2 ^ 31 by decide), nI_1]
    exact ⟨vp_in_nI (by omega) (by decide), hx _⟩
  | succ a ih =>
    intro o ha hx
    refine jrun_first OK_X0_arrange (C := [5, 39]) 60 ?_
    simp -implicitDefEqProofs only [jr_0, jr_1, jr_2, j_iconst, j_lconst, j_iload0, j_aload0, j_istore0, j_astore0, j_iinc0, j_iload1, j_aload1, j_istore1, j_astore1, j_iinc1, j_iload2, j_aload2, j_istore2, j_astore2, j_iinc2, j_iload3, j_aload3, j_istore3, j_astore3, j_iinc3, j_iload4, j_aload4, j_istore4, j_astore4, j_iinc4, j_iload5, j_aload5, j_istore5, j_astore5, j_iinc5, j_iload6, j_aload6, j_istore6, j_astore6, j_iinc6, j_iload7, j_aload7, j_istore7, j_astore7, j_iinc7, j_iload8, j_aload8, j_istore8, j_astore8, j_iinc8, j_iadd, j_isub, j_imul, j_iand, j_ior, j_ixor, j_ishl, j_ishr, j_iushr, j_idiv, j_irem, j_ineg, j_ladd, j_lmul, j_land, j_lor, j_lcmp, j_lushr, j_lshl, j_i2l, j_l2i, j_dupI, j_dupR, j_popI, j_dup2, j_ifeq, j_iceq, j_ifne, j_icne, j_iflt, j_iclt, j_ifge, j_icge, j_ifgt, j_icgt, j_ifle, j_icle, j_goto, j_tsw, j_sw0, j_sw1, j_ireturn, j_zreturn, j_lreturn, j_return, j_getfield, j_putI, j_putJ, j_putR, j_iaload, j_baload, j_iastore, j_bastore, j_aaload, j_q, j_aastore, j_acopy, j_mmin, j_mmax, j_mabs, j_objinit, j_new, j_newI, j_newQ, j_sld, j_slen, j_callV0, j_callI0, j_callS0, j_callV1, j_callI1, j_callS1, j_callV2, j_callI2, j_callS2, j_callV3, j_callS3, j_callV4, j_callS4, j_callV5, j_callS5, j_pushS, j_pushN, j_sh0, j_sh1, j_sh2, j_sh3, j_sh4, Int32.reduceAdd, Int32.reduceMul, Int32.reduceSub, Int32.reduceLT, Int32.reduceLE, eq_self, i32_10, i32_01, ne_eq, hrow_s, hrow_n, ne10, ne100, ne1000, ne7, ne4, ne14, ne9973, or_true, true_or, or_false, false_or, not_true_eq_false, not_false_eq_true, false_implies, implies_true, and_true, forall_const, true_implies, jargs_n, jargs_r, jargs_i, List.cons_append, List.nil_append, true_and, Nat.reduceEqDiff, reduceIte, ft_X0_arrange_0, ft_X0_arrange_1, ft_X0_arrange_2, ft_X0_arrange_3, ft_X0_arrange_5, ft_X0_arrange_7, ft_X0_arrange_8, ft_X0_arrange_11, ft_X0_arrange_12, ft_X0_arrange_13, ft_X0_arrange_16, ft_X0_arrange_17, ft_X0_arrange_19, ft_X0_arrange_20, ft_X0_arrange_23, ft_X0_arrange_24, ft_X0_arrange_27, ft_X0_arrange_28, ft_X0_arrange_30, ft_X0_arrange_33, ft_X0_arrange_36, ft_X0_arrange_37, ft_X0_arrange_39, ft_X0_arrange_41, ft_X0_arrange_44, ft_X0_arrange_45, ft_X0_arrange_46, ft_X0_arrange_48, ft_X0_arrange_49, ft_X0_arrange_52, ft_X0_arrange_54, ft_X0_arrange_55, ft_X0_arrange_56, ft_X0_arrange_57, ft_X0_arrange_60, ft_X0_arrange_63, ft_X0_arrange_64, ft_X0_arrange_67, ft_X0_arrange_69, ft_X0_arrange_70, ft_X0_arrange_73, ft_X0_arrange_75, ft_X0_arrange_76, ft_X0_arrange_77, ft_X0_arrange_78, ft_X0_arrange_79, ft_X0_arrange_82, ft_X0_arrange_85, ft_X0_arrange_86, ft_X0_arrange_89, ft_X0_arrange_91, ft_X0_arrange_93, ft_X0_arrange_94, ft_X0_arrange_97, ft_X0_arrange_100, ft_X0_arrange_103, ft_X0_arrange_104, fl_6_1, rc_6, as_7, al_7, hrow_hrow, i32_pos (show a + 1 < 2 ^ 31 by omega), nI_1, nI_s1, nI_m1, n7, s_X0_overtakes hs, zb_0, nI_clamp (show a < 2 ^ 31 by omega), nI_clamp (show a + 1 < 2 ^ 31 by omega), Nat.succ_ne_zero]
    have v1 : vp_in (nI a) 4 := vp_in_nI (by omega) (by decide)
    have v2 : vp_in (nI (a + 1)) 4 := vp_in_nI (by omega) (by decide)
    have v3 : vp_in (nI k) 4 ∨ True := Or.inr trivial
    unfold insF at hx
    by_cases h1 : overF (C 5) (C s) (nI j) (o a)
    · simp only [pick_t h1] at hx
      simp only [h1, v1, v2]
      simp only [true_and, not_true_eq_false, false_implies, not_false_eq_true, true_implies, implies_true, and_true]
      exact ih _ (by omega) hx
    · simp only [pick_f h1] at hx
      simp only [h1, v1, v2, true_and, not_true_eq_false, false_implies, not_false_eq_true, true_implies, implies_true, and_true]
      exact hx _
theorem lp_X0_arrange {Q : jQ} {C : Nat → Nat → Int32} {z : Nat → Int64} {nb s : Nat} {fed : Int32} (hs : jSt s 94) (h : Q (some (.int (nI (ordF (C 5) (C s) fed (C 7) 4).2))) (memS 94 (hrow C 7 (ordF (C 5) (C s) fed (C 7) 4).1) z)) :
    ∀ k j, j + k = 4 → ∀ x : Option Value, Rn Y_X0_arrange none Q 5 [some (.ref 6), some (.ref s), some (.int fed), some (.int (nI (ordF (C 5) (C s) fed (C 7) j).2)), some (.int (nI j)), x] [] (memS 94 (hrow C 7 (ordF (C 5) (C s) fed (C 7) j).1) z) (nb, 0, 0) := by
  have n7 : (s = 7) = False := by have := (jst_ne hs).2.2.2.1; simp only [eq_iff_iff, iff_false] at this ⊢; exact fun q => this q.symm
  intro k
  induction k with
  | zero =>
    intro j hj x
    have hj4 : j = 4 := by omega
    subst hj4
    have hc : (4 ≤ nI 4) = True := eq_true (by decide)
    refine jrun_first OK_X0_arrange (C := [5, 39]) 60 ?_
    simp -implicitDefEqProofs only [jr_0, jr_1, jr_2, j_iconst, j_lconst, j_iload0, j_aload0, j_istore0, j_astore0, j_iinc0, j_iload1, j_aload1, j_istore1, j_astore1, j_iinc1, j_iload2, j_aload2, j_istore2, j_astore2, j_iinc2, j_iload3, j_aload3, j_istore3, j_astore3, j_iinc3, j_iload4, j_aload4, j_istore4, j_astore4, j_iinc4, j_iload5, j_aload5, j_istore5, j_astore5, j_iinc5, j_iload6, j_aload6, j_istore6, j_astore6, j_iinc6, j_iload7, j_aload7, j_istore7, j_astore7, j_iinc7, j_iload8, j_aload8, j_istore8, j_astore8, j_iinc8, j_iadd, j_isub, j_imul, j_iand, j_ior, j_ixor, j_ishl, j_ishr, j_iushr, j_idiv, j_irem, j_ineg, j_ladd, j_lmul, j_land, j_lor, j_lcmp, j_lushr, j_lshl, j_i2l, j_l2i, j_dupI, j_dupR, j_popI, j_dup2, j_ifeq, j_iceq, j_ifne, j_icne, j_iflt, j_iclt, j_ifge, j_icge, j_ifgt, j_icgt, j_ifle, j_icle, j_goto, j_tsw, j_sw0, j_sw1, j_ireturn, j_zreturn, j_lreturn, j_return, j_getfield, j_putI, j_putJ, j_putR, j_iaload, j_baload, j_iastore, j_bastore, j_aaload, j_q, j_aastore, j_acopy, j_mmin, j_mmax, j_mabs, j_objinit, j_new, j_newI, j_newQ, j_sld, j_slen, j_callV0, j_callI0, j_callS0, j_callV1, j_callI1, j_callS1, j_callV2, j_callI2, j_callS2, j_callV3, j_callS3, j_callV4, j_callS4, j_callV5, j_callS5, j_pushS, j_pushN, j_sh0, j_sh1, j_sh2, j_sh3, j_sh4, Int32.reduceAdd, Int32.reduceMul, Int32.reduceSub, Int32.reduceLT, Int32.reduceLE, eq_self, i32_10, i32_01, ne_eq, hrow_s, hrow_n, ne10, ne100, ne1000, ne7, ne4, ne14, ne9973, or_true, true_or, or_false, false_or, not_true_eq_false, not_false_eq_true, false_implies, implies_true, and_true, forall_const, true_implies, jargs_n, jargs_r, jargs_i, List.cons_append, List.nil_append, true_and, Nat.reduceEqDiff, reduceIte, ft_X0_arrange_0, ft_X0_arrange_1, ft_X0_arrange_2, ft_X0_arrange_3, ft_X0_arrange_5, ft_X0_arrange_7, ft_X0_arrange_8, ft_X0_arrange_11, ft_X0_arrange_12, ft_X0_arrange_13, ft_X0_arrange_16, ft_X0_arrange_17, ft_X0_arrange_19, ft_X0_arrange_20, ft_X0_arrange_23, ft_X0_arrange_24, ft_X0_arrange_27, ft_X0_arrange_28, ft_X0_arrange_30, ft_X0_arrange_33, ft_X0_arrange_36, ft_X0_arrange_37, ft_X0_arrange_39, ft_X0_arrange_41, ft_X0_arrange_44, ft_X0_arrange_45, ft_X0_arrange_46, ft_X0_arrange_48, ft_X0_arrange_49, ft_X0_arrange_52, ft_X0_arrange_54, ft_X0_arrange_55, ft_X0_arrange_56, ft_X0_arrange_57, ft_X0_arrange_60, ft_X0_arrange_63, ft_X0_arrange_64, ft_X0_arrange_67, ft_X0_arrange_69, ft_X0_arrange_70, ft_X0_arrange_73, ft_X0_arrange_75, ft_X0_arrange_76, ft_X0_arrange_77, ft_X0_arrange_78, ft_X0_arrange_79, ft_X0_arrange_82, ft_X0_arrange_85, ft_X0_arrange_86, ft_X0_arrange_89, ft_X0_arrange_91, ft_X0_arrange_93, ft_X0_arrange_94, ft_X0_arrange_97, ft_X0_arrange_100, ft_X0_arrange_103, ft_X0_arrange_104, hc]
    exact h
  | succ k ih =>
    intro j hj x
    have hc : (4 ≤ nI j) = False := eq_false (nI_ge (b := 4) (by omega) (by decide))
    have hk := ih (j + 1) (by omega)
    refine jrun_first OK_X0_arrange (C := [5, 39]) 60 ?_
    have hle := ordF_le (T := C 5) (ρ := C s) (fed := fed) (o := C 7) j
    unfold ordF at hk
    generalize ordF (C 5) (C s) fed (C 7) j = ok at hk hle ⊢
    obtain ⟨o, n⟩ := ok
    have hle2 : n ≤ j := hle
    have hc4 : (4 ≤ nI n) = False := eq_false (nI_ge (b := 4) (by omega) (by decide))
    simp -implicitDefEqProofs only [jr_0, jr_1, jr_2, j_iconst, j_lconst, j_iload0, j_aload0, j_istore0, j_astore0, j_iinc0, j_iload1, j_aload1, j_istore1, j_astore1, j_iinc1, j_iload2, j_aload2, j_istore2, j_astore2, j_iinc2, j_iload3, j_aload3, j_istore3, j_astore3, j_iinc3, j_iload4, j_aload4, j_istore4, j_astore4, j_iinc4, j_iload5, j_aload5, j_istore5, j_astore5, j_iinc5, j_iload6, j_aload6, j_istore6, j_astore6, j_iinc6, j_iload7, j_aload7, j_istore7, j_astore7, j_iinc7, j_iload8, j_aload8, j_istore8, j_astore8, j_iinc8, j_iadd, j_isub, j_imul, j_iand, j_ior, j_ixor, j_ishl, j_ishr, j_iushr, j_idiv, j_irem, j_ineg, j_ladd, j_lmul, j_land, j_lor, j_lcmp, j_lushr, j_lshl, j_i2l, j_l2i, j_dupI, j_dupR, j_popI, j_dup2, j_ifeq, j_iceq, j_ifne, j_icne, j_iflt, j_iclt, j_ifge, j_icge, j_ifgt, j_icgt, j_ifle, j_icle, j_goto, j_tsw, j_sw0, j_sw1, j_ireturn, j_zreturn, j_lreturn, j_return, j_getfield, j_putI, j_putJ, j_putR, j_iaload, j_baload, j_iastore, j_bastore, j_aaload, j_q, j_aastore, j_acopy, j_mmin, j_mmax, j_mabs, j_objinit, j_new, j_newI, j_newQ, j_sld, j_slen, j_callV0, j_callI0, j_callS0, j_callV1, j_callI1, j_callS1, j_callV2, j_callI2, j_callS2, j_callV3, j_callS3, j_callV4, j_callS4, j_callV5, j_callS5, j_pushS, j_pushN, j_sh0, j_sh1, j_sh2, j_sh3, j_sh4, Int32.reduceAdd, Int32.reduceMul, Int32.reduceSub, Int32.reduceLT, Int32.reduceLE, eq_self, i32_10, i32_01, ne_eq, hrow_s, hrow_n, ne10, ne100, ne1000, ne7, ne4, ne14, ne9973, or_true, true_or, or_false, false_or, not_true_eq_false, not_false_eq_true, false_implies, implies_true, and_true, forall_const, true_implies, jargs_n, jargs_r, jargs_i, List.cons_append, List.nil_append, true_and, Nat.reduceEqDiff, reduceIte, ft_X0_arrange_0, ft_X0_arrange_1, ft_X0_arrange_2, ft_X0_arrange_3, ft_X0_arrange_5, ft_X0_arrange_7, ft_X0_arrange_8, ft_X0_arrange_11, ft_X0_arrange_12, ft_X0_arrange_13, ft_X0_arrange_16, ft_X0_arrange_17, ft_X0_arrange_19, ft_X0_arrange_20, ft_X0_arrange_23, ft_X0_arrange_24, ft_X0_arrange_27, ft_X0_arrange_28, ft_X0_arrange_30, ft_X0_arrange_33, ft_X0_arrange_36, ft_X0_arrange_37, ft_X0_arrange_39, ft_X0_arrange_41, ft_X0_arrange_44, ft_X0_arrange_45, ft_X0_arrange_46, ft_X0_arrange_48, ft_X0_arrange_49, ft_X0_arrange_52, ft_X0_arrange_54, ft_X0_arrange_55, ft_X0_arrange_56, ft_X0_arrange_57, ft_X0_arrange_60, ft_X0_arrange_63, ft_X0_arrange_64, ft_X0_arrange_67, ft_X0_arrange_69, ft_X0_arrange_70, ft_X0_arrange_73, ft_X0_arrange_75, ft_X0_arrange_76, ft_X0_arrange_77, ft_X0_arrange_78, ft_X0_arrange_79, ft_X0_arrange_82, ft_X0_arrange_85, ft_X0_arrange_86, ft_X0_arrange_89, ft_X0_arrange_91, ft_X0_arrange_93, ft_X0_arrange_94, ft_X0_arrange_97, ft_X0_arrange_100, ft_X0_arrange_103, ft_X0_arrange_104, hc, hc4, n7, s_X4_get hs, jrcv_st hs, s_X6_hasP, zb_0, nI_1]
    by_cases h1 : rget (C s) (nI j) 2 = 3
    · by_cases h2 : hasP fed (nI j)
      · rw [pick_t (show onP (C s) fed (nI j) from ⟨h1, h2⟩)] at hk
        simp only [h1, h2, true_and, not_true_eq_false, false_implies, not_false_eq_true, true_implies, implies_true, and_true]
        exact lp_X0_arrange_in hs (by omega) n o hle hk
      · rw [pick_f (fun q : onP (C s) fed (nI j) => h2 q.2)] at hk
        simp only [h1, h2, true_and, not_true_eq_false, false_implies, not_false_eq_true, true_implies, implies_true, and_true]
        exact hk _
    · rw [pick_f (fun q : onP (C s) fed (nI j) => h1 q.1)] at hk
      simp only [h1, true_and, not_true_eq_false, false_implies, not_false_eq_true, true_implies, implies_true, and_true]
      exact hk _
theorem ok_X0_arrange : jMeets Y_X0_arrange S_X0_arrange := by
  intro nb vs mem Q h
  obtain ⟨C, z, s, fed, rfl, rfl, hs, hQ⟩ := h
  refine Ok.run OK_X0_arrange [5, 39] 60 [none, none, none] pn0 (Nat.le_of_ble_eq_true rfl) rfl ?_
  simp -implicitDefEqProofs only [jr_0, jr_1, jr_2, j_iconst, j_lconst, j_iload0, j_aload0, j_istore0, j_astore0, j_iinc0, j_iload1, j_aload1, j_istore1, j_astore1, j_iinc1, j_iload2, j_aload2, j_istore2, j_astore2, j_iinc2, j_iload3, j_aload3, j_istore3, j_astore3, j_iinc3, j_iload4, j_aload4, j_istore4, j_astore4, j_iinc4, j_iload5, j_aload5, j_istore5, j_astore5, j_iinc5, j_iload6, j_aload6, j_istore6, j_astore6, j_iinc6, j_iload7, j_aload7, j_istore7, j_astore7, j_iinc7, j_iload8, j_aload8, j_istore8, j_astore8, j_iinc8, j_iadd, j_isub, j_imul, j_iand, j_ior, j_ixor, j_ishl, j_ishr, j_iushr, j_idiv, j_irem, j_ineg, j_ladd, j_lmul, j_land, j_lor, j_lcmp, j_lushr, j_lshl, j_i2l, j_l2i, j_dupI, j_dupR, j_popI, j_dup2, j_ifeq, j_iceq, j_ifne, j_icne, j_iflt, j_iclt, j_ifge, j_icge, j_ifgt, j_icgt, j_ifle, j_icle, j_goto, j_tsw, j_sw0, j_sw1, j_ireturn, j_zreturn, j_lreturn, j_return, j_getfield, j_putI, j_putJ, j_putR, j_iaload, j_baload, j_iastore, j_bastore, j_aaload, j_q, j_aastore, j_acopy, j_mmin, j_mmax, j_mabs, j_objinit, j_new, j_newI, j_newQ, j_sld, j_slen, j_callV0, j_callI0, j_callS0, j_callV1, j_callI1, j_callS1, j_callV2, j_callI2, j_callS2, j_callV3, j_callS3, j_callV4, j_callS4, j_callV5, j_callS5, j_pushS, j_pushN, j_sh0, j_sh1, j_sh2, j_sh3, j_sh4, Int32.reduceAdd, Int32.reduceMul, Int32.reduceSub, Int32.reduceLT, Int32.reduceLE, eq_self, i32_10, i32_01, ne_eq, hrow_s, hrow_n, ne10, ne100, ne1000, ne7, ne4, ne14, ne9973, or_true, true_or, or_false, false_or, not_true_eq_false, not_false_eq_true, false_implies, implies_true, and_true, forall_const, true_implies, jargs_n, jargs_r, jargs_i, List.cons_append, List.nil_append, true_and, Nat.reduceEqDiff, reduceIte, ft_X0_arrange_0, ft_X0_arrange_1, ft_X0_arrange_2, ft_X0_arrange_3, ft_X0_arrange_5, ft_X0_arrange_7, ft_X0_arrange_8, ft_X0_arrange_11, ft_X0_arrange_12, ft_X0_arrange_13, ft_X0_arrange_16, ft_X0_arrange_17, ft_X0_arrange_19, ft_X0_arrange_20, ft_X0_arrange_23, ft_X0_arrange_24, ft_X0_arrange_27, ft_X0_arrange_28, ft_X0_arrange_30, ft_X0_arrange_33, ft_X0_arrange_36, ft_X0_arrange_37, ft_X0_arrange_39, ft_X0_arrange_41, ft_X0_arrange_44, ft_X0_arrange_45, ft_X0_arrange_46, ft_X0_arrange_48, ft_X0_arrange_49, ft_X0_arrange_52, ft_X0_arrange_54, ft_X0_arrange_55, ft_X0_arrange_56, ft_X0_arrange_57, ft_X0_arrange_60, ft_X0_arrange_63, ft_X0_arrange_64, ft_X0_arrange_67, ft_X0_arrange_69, ft_X0_arrange_70, ft_X0_arrange_73, ft_X0_arrange_75, ft_X0_arrange_76, ft_X0_arrange_77, ft_X0_arrange_78, ft_X0_arrange_79, ft_X0_arrange_82, ft_X0_arrange_85, ft_X0_arrange_86, ft_X0_arrange_89, ft_X0_arrange_91, ft_X0_arrange_93, ft_X0_arrange_94, ft_X0_arrange_97, ft_X0_arrange_100, ft_X0_arrange_103, ft_X0_arrange_104]
  have := lp_X0_arrange hs hQ 4 0 (by omega) none (nb := nb)
  rw [show ordF (C 5) (C s) fed (C 7) 0 = (C 7, 0) from rfl, hrow_self] at this
  exact this
theorem s_X0_arrange {nb s : Nat} {C : Nat → Nat → Int32} {z : Nat → Int64} {fed : Int32} {Q : jQ} (hs : jSt s 94) (hQ : Q (some (.int (nI (ordF (C 5) (C s) fed (C 7) 4).2))) (memS 94 (hrow C 7 (ordF (C 5) (C s) fed (C 7) 4).1) z)) : S_X0_arrange nb [.ref 6, .ref s, .int fed] (memS 94 C z) Q := ⟨C, z, s, fed, rfl, rfl, hs, hQ⟩
