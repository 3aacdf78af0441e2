/-! ahead -/
noncomputable def aheadA (C : Nat → Nat → Int32) (n talk p w : Int32) : Int32 := pick (okPost C p) (pick ((0 ≤ n ∧ n ≤ 99) ∧ 1 ≤ w ∧ w ≤ 9) (propF (C 5) (goF C (pick (talk = 0) 15 0) 15 (-1) n.toNatClampNeg (C 9)) p w) (-2)) (-1)
def S_X6_ahead : jSp := fun _ vs mem Q => ∃ C z P, ∃ n talk p w : Int32, vs = [.ref 0, .int n, .int talk, .int p, .int w] ∧ mem = memS 94 C z ∧ RC C P ∧ ∀ C', Hv C C' → Q (some (.int (aheadA C n talk p w))) (memS 94 C' z)
def F_X6_ahead_0 : Nat → jT := fun pc => (bif Nat.blt pc 11 then (bif Nat.blt pc 4 then (bif Nat.blt pc 1 then (bif Nat.beq pc 0 then J_aload 0 1 else jbad) else (bif Nat.beq pc 1 then J_getfield 6 1 4 else jbad)) else (bif Nat.blt pc 5 then (bif Nat.beq pc 4 then J_iload 3 5 else jbad) else (bif Nat.blt pc 8 then (bif Nat.beq pc 5 then J_callV 3 S_X3_hasPost 1 8 else jbad) else (bif Nat.beq pc 8 then J_ifne 13 11 else jbad)))) else (bif Nat.blt pc 14 then (bif Nat.blt pc 12 then (bif Nat.beq pc 11 then J_iconst (-1) 12 else jbad) else (bif Nat.blt pc 13 then (bif Nat.beq pc 12 then J_ireturn 0 0 else jbad) else (bif Nat.beq pc 13 then J_iload 1 14 else jbad))) else (bif Nat.blt pc 17 then (bif Nat.beq pc 14 then J_iflt 36 17 else jbad) else (bif Nat.blt pc 18 then (bif Nat.beq pc 17 then J_iload 1 18 else jbad) else (bif Nat.beq pc 18 then J_iconst 99 20 else jbad)))))
theorem ftl_X6_ahead_0 : F_X6_ahead_0 0 = J_aload 0 1 := rfl
theorem ftl_X6_ahead_1 : F_X6_ahead_0 1 = J_getfield 6 1 4 := rfl
theorem ftl_X6_ahead_4 : F_X6_ahead_0 4 = J_iload 3 5 := rfl
theorem ftl_X6_ahead_5 : F_X6_ahead_0 5 = J_callV 3 S_X3_hasPost 1 8 := rfl
theorem ftl_X6_ahead_8 : F_X6_ahead_0 8 = J_ifne 13 11 := rfl
theorem ftl_X6_ahead_11 : F_X6_ahead_0 11 = J_iconst (-1) 12 := rfl
theorem ftl_X6_ahead_12 : F_X6_ahead_0 12 = J_ireturn 0 0 := rfl
theorem ftl_X6_ahead_13 : F_X6_ahead_0 13 = J_iload 1 14 := rfl
theorem ftl_X6_ahead_14 : F_X6_ahead_0 14 = J_iflt 36 17 := rfl
theorem ftl_X6_ahead_17 : F_X6_ahead_0 17 = J_iload 1 18 := rfl
theorem ftl_X6_ahead_18 : F_X6_ahead_0 18 = J_iconst 99 20 := rfl
theorem F_X6_ahead_0_ok : jOK Y_X6_ahead none (F_X6_ahead_0) := (jOK_node (jOK_node (jOK_node (jOK_leaf (sn_aload_n dX6_ahead_0 rfl rfl)) (jOK_leaf (sn_getfield dX6_ahead_1 rfl rfl (by decide) tw_167 jin6))) (jOK_node (jOK_leaf (sn_iload_n dX6_ahead_4 rfl rfl)) (jOK_node (jOK_leaf (sn_callV (Y' := Y_X3_hasPost) ok_X3_hasPost dX6_ahead_5 rfl rfl rfl tw_286 tw_287 tw_288 tw_3 jc_X3_hasPost rfl ⟨by decide, by decide, rfl⟩ ⟨by decide, by decide⟩)) (jOK_leaf (sn_ifne dX6_ahead_8 rfl rfl))))) (jOK_node (jOK_node (jOK_leaf (sn_iconst dX6_ahead_11 rfl rfl)) (jOK_node (jOK_leaf (sn_ireturn dX6_ahead_12 rfl rfl)) (jOK_leaf (sn_iload_n dX6_ahead_13 rfl rfl)))) (jOK_node (jOK_leaf (sn_iflt dX6_ahead_14 rfl rfl)) (jOK_node (jOK_leaf (sn_iload_n dX6_ahead_17 rfl rfl)) (jOK_leaf (sn_bipush dX6_ahead_18 rfl rfl))))))
def F_X6_ahead_20 : Nat → jT := fun pc => (bif Nat.blt pc 33 then (bif Nat.blt pc 26 then (bif Nat.blt pc 23 then (bif Nat.beq pc 20 then J_icgt 36 23 else jbad) else (bif Nat.blt pc 25 then (bif Nat.beq pc 23 then J_iload 4 25 else jbad) else (bif Nat.beq pc 25 then J_iconst 1 26 else jbad))) else (bif Nat.blt pc 29 then (bif Nat.beq pc 26 then J_iclt 36 29 else jbad) else (bif Nat.blt pc 31 then (bif Nat.beq pc 29 then J_iload 4 31 else jbad) else (bif Nat.beq pc 31 then J_iconst 9 33 else jbad)))) else (bif Nat.blt pc 39 then (bif Nat.blt pc 36 then (bif Nat.beq pc 33 then J_icle 39 36 else jbad) else (bif Nat.blt pc 38 then (bif Nat.beq pc 36 then J_iconst (-2) 38 else jbad) else (bif Nat.beq pc 38 then J_ireturn 0 0 else jbad))) else (bif Nat.blt pc 40 then (bif Nat.beq pc 39 then J_aload 0 40 else jbad) else (bif Nat.blt pc 43 then (bif Nat.beq pc 40 then J_getfield 6 4 43 else jbad) else (bif Nat.beq pc 43 then J_aload 0 44 else jbad)))))
theorem ftl_X6_ahead_20 : F_X6_ahead_20 20 = J_icgt 36 23 := rfl
theorem ftl_X6_ahead_23 : F_X6_ahead_20 23 = J_iload 4 25 := rfl
theorem ftl_X6_ahead_25 : F_X6_ahead_20 25 = J_iconst 1 26 := rfl
theorem ftl_X6_ahead_26 : F_X6_ahead_20 26 = J_iclt 36 29 := rfl
theorem ftl_X6_ahead_29 : F_X6_ahead_20 29 = J_iload 4 31 := rfl
theorem ftl_X6_ahead_31 : F_X6_ahead_20 31 = J_iconst 9 33 := rfl
theorem ftl_X6_ahead_33 : F_X6_ahead_20 33 = J_icle 39 36 := rfl
theorem ftl_X6_ahead_36 : F_X6_ahead_20 36 = J_iconst (-2) 38 := rfl
theorem ftl_X6_ahead_38 : F_X6_ahead_20 38 = J_ireturn 0 0 := rfl
theorem ftl_X6_ahead_39 : F_X6_ahead_20 39 = J_aload 0 40 := rfl
theorem ftl_X6_ahead_40 : F_X6_ahead_20 40 = J_getfield 6 4 43 := rfl
theorem ftl_X6_ahead_43 : F_X6_ahead_20 43 = J_aload 0 44 := rfl
theorem F_X6_ahead_20_ok : jOK Y_X6_ahead none (F_X6_ahead_20) := (jOK_node (jOK_node (jOK_node (jOK_leaf (sn_icgt dX6_ahead_20 rfl rfl)) (jOK_node (jOK_leaf (sn_iload dX6_ahead_23 rfl)) (jOK_leaf (sn_iconst dX6_ahead_25 rfl rfl)))) (jOK_node (jOK_leaf (sn_iclt dX6_ahead_26 rfl rfl)) (jOK_node (jOK_leaf (sn_iload dX6_ahead_29 rfl)) (jOK_leaf (sn_bipush dX6_ahead_31 rfl rfl))))) (jOK_node (jOK_node (jOK_leaf (sn_icle dX6_ahead_33 rfl rfl)) (jOK_node (jOK_leaf (sn_bipush dX6_ahead_36 rfl rfl)) (jOK_leaf (sn_ireturn dX6_ahead_38 rfl rfl)))) (jOK_node (jOK_leaf (sn_aload_n dX6_ahead_39 rfl rfl)) (jOK_node (jOK_leaf (sn_getfield dX6_ahead_40 rfl rfl (by decide) tw_170 jin6)) (jOK_leaf (sn_aload_n dX6_ahead_43 rfl rfl))))))
def F_X6_ahead_0_43 : Nat → jT := fun pc => bif Nat.blt pc 20 then F_X6_ahead_0 pc else F_X6_ahead_20 pc
theorem F_X6_ahead_0_43_l {pc : Nat} (h : Nat.blt pc 20 = true) : F_X6_ahead_0_43 pc = F_X6_ahead_0 pc := by unfold F_X6_ahead_0_43; rw [h]; rfl
theorem F_X6_ahead_0_43_r {pc : Nat} (h : Nat.blt pc 20 = false) : F_X6_ahead_0_43 pc = F_X6_ahead_20 pc := by unfold F_X6_ahead_0_43; rw [h]; rfl
theorem F_X6_ahead_0_43_ok : jOK Y_X6_ahead none (F_X6_ahead_0_43) := jOK_node (F_X6_ahead_0_ok) (F_X6_ahead_20_ok)
def F_X6_ahead_44 : Nat → jT := fun pc => (bif Nat.blt pc 55 then (bif Nat.blt pc 50 then (bif Nat.blt pc 47 then (bif Nat.beq pc 44 then J_getfield 6 3 47 else jbad) else (bif Nat.beq pc 47 then J_callV 4 S_X4_take 1 50 else jbad)) else (bif Nat.blt pc 51 then (bif Nat.beq pc 50 then J_aload 0 51 else jbad) else (bif Nat.blt pc 54 then (bif Nat.beq pc 51 then J_getfield 6 2 54 else jbad) else (bif Nat.beq pc 54 then J_aload 0 55 else jbad)))) else (bif Nat.blt pc 60 then (bif Nat.blt pc 58 then (bif Nat.beq pc 55 then J_getfield 6 4 58 else jbad) else (bif Nat.blt pc 59 then (bif Nat.beq pc 58 then J_iload 1 59 else jbad) else (bif Nat.beq pc 59 then J_iload 2 60 else jbad))) else (bif Nat.blt pc 63 then (bif Nat.beq pc 60 then J_ifeq 67 63 else jbad) else (bif Nat.blt pc 64 then (bif Nat.beq pc 63 then J_iconst 0 64 else jbad) else (bif Nat.beq pc 64 then J_goto 69 else jbad)))))
theorem ftl_X6_ahead_44 : F_X6_ahead_44 44 = J_getfield 6 3 47 := rfl
theorem ftl_X6_ahead_47 : F_X6_ahead_44 47 = J_callV 4 S_X4_take 1 50 := rfl
theorem ftl_X6_ahead_50 : F_X6_ahead_44 50 = J_aload 0 51 := rfl
theorem ftl_X6_ahead_51 : F_X6_ahead_44 51 = J_getfield 6 2 54 := rfl
theorem ftl_X6_ahead_54 : F_X6_ahead_44 54 = J_aload 0 55 := rfl
theorem ftl_X6_ahead_55 : F_X6_ahead_44 55 = J_getfield 6 4 58 := rfl
theorem ftl_X6_ahead_58 : F_X6_ahead_44 58 = J_iload 1 59 := rfl
theorem ftl_X6_ahead_59 : F_X6_ahead_44 59 = J_iload 2 60 := rfl
theorem ftl_X6_ahead_60 : F_X6_ahead_44 60 = J_ifeq 67 63 := rfl
theorem ftl_X6_ahead_63 : F_X6_ahead_44 63 = J_iconst 0 64 := rfl
theorem ftl_X6_ahead_64 : F_X6_ahead_44 64 = J_goto 69 := rfl
theorem F_X6_ahead_44_ok : jOK Y_X6_ahead none (F_X6_ahead_44) := (jOK_node (jOK_node (jOK_node (jOK_leaf (sn_getfield dX6_ahead_44 rfl rfl (by decide) tw_169 jin6)) (jOK_leaf (sn_callV (Y' := Y_X4_take) ok_X4_take dX6_ahead_47 rfl rfl rfl tw_331 tw_332 tw_333 tw_5 jc_X4_take rfl ⟨by decide, by decide, rfl⟩ ⟨by decide, by decide⟩))) (jOK_node (jOK_leaf (sn_aload_n dX6_ahead_50 rfl rfl)) (jOK_node (jOK_leaf (sn_getfield dX6_ahead_51 rfl rfl (by decide) tw_168 jin6)) (jOK_leaf (sn_aload_n dX6_ahead_54 rfl rfl))))) (jOK_node (jOK_node (jOK_leaf (sn_getfield dX6_ahead_55 rfl rfl (by decide) tw_170 jin6)) (jOK_node (jOK_leaf (sn_iload_n dX6_ahead_58 rfl rfl)) (jOK_leaf (sn_iload_n dX6_ahead_59 rfl rfl)))) (jOK_node (jOK_leaf (sn_ifeq dX6_ahead_60 rfl rfl)) (jOK_node (jOK_leaf (sn_iconst dX6_ahead_63 rfl rfl)) (jOK_leaf (sn_goto dX6_ahead_64 rfl))))))
def F_X6_ahead_67 : Nat → jT := fun pc => (bif Nat.blt pc 79 then (bif Nat.blt pc 72 then (bif Nat.blt pc 69 then (bif Nat.beq pc 67 then J_iconst 15 69 else jbad) else (bif Nat.blt pc 71 then (bif Nat.beq pc 69 then J_iconst 15 71 else jbad) else (bif Nat.beq pc 71 then J_iconst (-1) 72 else jbad))) else (bif Nat.blt pc 75 then (bif Nat.beq pc 72 then J_callV 0 S_X0_pass 5 75 else jbad) else (bif Nat.blt pc 76 then (bif Nat.beq pc 75 then J_aload 0 76 else jbad) else (bif Nat.beq pc 76 then J_getfield 6 2 79 else jbad)))) else (bif Nat.blt pc 84 then (bif Nat.blt pc 80 then (bif Nat.beq pc 79 then J_aload 0 80 else jbad) else (bif Nat.blt pc 83 then (bif Nat.beq pc 80 then J_getfield 6 4 83 else jbad) else (bif Nat.beq pc 83 then J_iload 3 84 else jbad))) else (bif Nat.blt pc 86 then (bif Nat.beq pc 84 then J_iload 4 86 else jbad) else (bif Nat.blt pc 89 then (bif Nat.beq pc 86 then J_callV 0 S_X0_property 3 89 else jbad) else (bif Nat.beq pc 89 then J_ireturn 0 0 else jbad)))))
theorem ftl_X6_ahead_67 : F_X6_ahead_67 67 = J_iconst 15 69 := rfl
theorem ftl_X6_ahead_69 : F_X6_ahead_67 69 = J_iconst 15 71 := rfl
theorem ftl_X6_ahead_71 : F_X6_ahead_67 71 = J_iconst (-1) 72 := rfl
theorem ftl_X6_ahead_72 : F_X6_ahead_67 72 = J_callV 0 S_X0_pass 5 75 := rfl
theorem ftl_X6_ahead_75 : F_X6_ahead_67 75 = J_aload 0 76 := rfl
theorem ftl_X6_ahead_76 : F_X6_ahead_67 76 = J_getfield 6 2 79 := rfl
theorem ftl_X6_ahead_79 : F_X6_ahead_67 79 = J_aload 0 80 := rfl
theorem ftl_X6_ahead_80 : F_X6_ahead_67 80 = J_getfield 6 4 83 := rfl
theorem ftl_X6_ahead_83 : F_X6_ahead_67 83 = J_iload 3 84 := rfl
theorem ftl_X6_ahead_84 : F_X6_ahead_67 84 = J_iload 4 86 := rfl
theorem ftl_X6_ahead_86 : F_X6_ahead_67 86 = J_callV 0 S_X0_property 3 89 := rfl
theorem ftl_X6_ahead_89 : F_X6_ahead_67 89 = J_ireturn 0 0 := rfl
theorem F_X6_ahead_67_ok : jOK Y_X6_ahead none (F_X6_ahead_67) := (jOK_node (jOK_node (jOK_node (jOK_leaf (sn_bipush dX6_ahead_67 rfl rfl)) (jOK_node (jOK_leaf (sn_bipush dX6_ahead_69 rfl rfl)) (jOK_leaf (sn_iconst dX6_ahead_71 rfl rfl)))) (jOK_node (jOK_leaf (sn_callV (Y' := Y_X0_pass) ok_X0_pass dX6_ahead_72 rfl rfl rfl tw_483 tw_343 tw_344 tw_4 jc_X0_pass rfl ⟨by decide, by decide, rfl⟩ ⟨by decide, by decide⟩)) (jOK_node (jOK_leaf (sn_aload_n dX6_ahead_75 rfl rfl)) (jOK_leaf (sn_getfield dX6_ahead_76 rfl rfl (by decide) tw_168 jin6))))) (jOK_node (jOK_node (jOK_leaf (sn_aload_n dX6_ahead_79 rfl rfl)) (jOK_node (jOK_leaf (sn_getfield dX6_ahead_80 rfl rfl (by decide) tw_170 jin6)) (jOK_leaf (sn_iload_n dX6_ahead_83 rfl rfl)))) (jOK_node (jOK_leaf (sn_iload dX6_ahead_84 rfl)) (jOK_node (jOK_leaf (sn_callV (Y' := Y_X0_property) ok_X0_property dX6_ahead_86 rfl rfl rfl tw_294 tw_295 tw_296 tw_4 jc_X0_property rfl ⟨by decide, by decide, rfl⟩ ⟨by decide, by decide⟩)) (jOK_leaf (sn_ireturn dX6_ahead_89 rfl rfl))))))
def F_X6_ahead_44_89 : Nat → jT := fun pc => bif Nat.blt pc 67 then F_X6_ahead_44 pc else F_X6_ahead_67 pc
theorem F_X6_ahead_44_89_l {pc : Nat} (h : Nat.blt pc 67 = true) : F_X6_ahead_44_89 pc = F_X6_ahead_44 pc := by unfold F_X6_ahead_44_89; rw [h]; rfl
theorem F_X6_ahead_44_89_r {pc : Nat} (h : Nat.blt pc 67 = false) : F_X6_ahead_44_89 pc = F_X6_ahead_67 pc := by unfold F_X6_ahead_44_89; rw [h]; rfl
theorem F_X6_ahead_44_89_ok : jOK Y_X6_ahead none (F_X6_ahead_44_89) := jOK_node (F_X6_ahead_44_ok) (F_X6_ahead_67_ok)
def F_X6_ahead_0_89 : Nat → jT := fun pc => bif Nat.blt pc 44 then F_X6_ahead_0_43 pc else F_X6_ahead_44_89 pc
theorem F_X6_ahead_0_89_l {pc : Nat} (h : Nat.blt pc 44 = true) : F_X6_ahead_0_89 pc = F_X6_ahead_0_43 pc := by unfold F_X6_ahead_0_89; rw [h]; rfl
theorem F_X6_ahead_0_89_r {pc : Nat} (h : Nat.blt pc 44 = false) : F_X6_ahead_0_89 pc = F_X6_ahead_44_89 pc := by unfold F_X6_ahead_0_89; rw [h]; rfl
theorem F_X6_ahead_0_89_ok : jOK Y_X6_ahead none (F_X6_ahead_0_89) := jOK_node (F_X6_ahead_0_43_ok) (F_X6_ahead_44_89_ok)
def F_X6_ahead : Nat → jT := F_X6_ahead_0_89
theorem OK_X6_ahead : jOK Y_X6_ahead none (F_X6_ahead) := F_X6_ahead_0_89_ok
theorem ft_X6_ahead_0 : F_X6_ahead 0 = J_aload 0 1 := (F_X6_ahead_0_89_l rfl).trans ((F_X6_ahead_0_43_l rfl).trans (ftl_X6_ahead_0))
theorem ft_X6_ahead_1 : F_X6_ahead 1 = J_getfield 6 1 4 := (F_X6_ahead_0_89_l rfl).trans ((F_X6_ahead_0_43_l rfl).trans (ftl_X6_ahead_1))
theorem ft_X6_ahead_4 : F_X6_ahead 4 = J_iload 3 5 := (F_X6_ahead_0_89_l rfl).trans ((F_X6_ahead_0_43_l rfl).trans (ftl_X6_ahead_4))
theorem ft_X6_ahead_5 : F_X6_ahead 5 = J_callV 3 S_X3_hasPost 1 8 := (F_X6_ahead_0_89_l rfl).trans ((F_X6_ahead_0_43_l rfl).trans (ftl_X6_ahead_5))
theorem ft_X6_ahead_8 : F_X6_ahead 8 = J_ifne 13 11 := (F_X6_ahead_0_89_l rfl).trans ((F_X6_ahead_0_43_l rfl).trans (ftl_X6_ahead_8))
theorem ft_X6_ahead_11 : F_X6_ahead 11 = J_iconst (-1) 12 := (F_X6_ahead_0_89_l rfl).trans ((F_X6_ahead_0_43_l rfl).trans (ftl_X6_ahead_11))
theorem ft_X6_ahead_12 : F_X6_ahead 12 = J_ireturn 0 0 := (F_X6_ahead_0_89_l rfl).trans ((F_X6_ahead_0_43_l rfl).trans (ftl_X6_ahead_12))
theorem ft_X6_ahead_13 : F_X6_ahead 13 = J_iload 1 14 := (F_X6_ahead_0_89_l rfl).trans ((F_X6_ahead_0_43_l rfl).trans (ftl_X6_ahead_13))
theorem ft_X6_ahead_14 : F_X6_ahead 14 = J_iflt 36 17 := (F_X6_ahead_0_89_l rfl).trans ((F_X6_ahead_0_43_l rfl).trans (ftl_X6_ahead_14))
theorem ft_X6_ahead_17 : F_X6_ahead 17 = J_iload 1 18 := (F_X6_ahead_0_89_l rfl).trans ((F_X6_ahead_0_43_l rfl).trans (ftl_X6_ahead_17))
theorem ft_X6_ahead_18 : F_X6_ahead 18 = J_iconst 99 20 := (F_X6_ahead_0_89_l rfl).trans ((F_X6_ahead_0_43_l rfl).trans (ftl_X6_ahead_18))
theorem ft_X6_ahead_20 : F_X6_ahead 20 = J_icgt 36 23 := (F_X6_ahead_0_89_l rfl).trans ((F_X6_ahead_0_43_r rfl).trans (ftl_X6_ahead_20))
theorem ft_X6_ahead_23 : F_X6_ahead 23 = J_iload 4 25 := (F_X6_ahead_0_89_l rfl).trans ((F_X6_ahead_0_43_r rfl).trans (ftl_X6_ahead_23))
theorem ft_X6_ahead_25 : F_X6_ahead 25 = J_iconst 1 26 := (F_X6_ahead_0_89_l rfl).trans ((F_X6_ahead_0_43_r rfl).trans (ftl_X6_ahead_25))
theorem ft_X6_ahead_26 : F_X6_ahead 26 = J_iclt 36 29 := (F_X6_ahead_0_89_l rfl).trans ((F_X6_ahead_0_43_r rfl).trans (ftl_X6_ahead_26))
theorem ft_X6_ahead_29 : F_X6_ahead 29 = J_iload 4 31 := (F_X6_ahead_0_89_l rfl).trans ((F_X6_ahead_0_43_r rfl).trans (ftl_X6_ahead_29))
theorem ft_X6_ahead_31 : F_X6_ahead 31 = J_iconst 9 33 := (F_X6_ahead_0_89_l rfl).trans ((F_X6_ahead_0_43_r rfl).trans (ftl_X6_ahead_31))
theorem ft_X6_ahead_33 : F_X6_ahead 33 = J_icle 39 36 := (F_X6_ahead_0_89_l rfl).trans ((F_X6_ahead_0_43_r rfl).trans (ftl_X6_ahead_33))
theorem ft_X6_ahead_36 : F_X6_ahead 36 = J_iconst (-2) 38 := (F_X6_ahead_0_89_l rfl).trans ((F_X6_ahead_0_43_r rfl).trans (ftl_X6_ahead_36))
theorem ft_X6_ahead_38 : F_X6_ahead 38 = J_ireturn 0 0 := (F_X6_ahead_0_89_l rfl).trans ((F_X6_ahead_0_43_r rfl).trans (ftl_X6_ahead_38))
theorem ft_X6_ahead_39 : F_X6_ahead 39 = J_aload 0 40 := (F_X6_ahead_0_89_l rfl).trans ((F_X6_ahead_0_43_r rfl).trans (ftl_X6_ahead_39))
theorem ft_X6_ahead_40 : F_X6_ahead 40 = J_getfield 6 4 43 := (F_X6_ahead_0_89_l rfl).trans ((F_X6_ahead_0_43_r rfl).trans (ftl_X6_ahead_40))
theorem ft_X6_ahead_43 : F_X6_ahead 43 = J_aload 0 44 := (F_X6_ahead_0_89_l rfl).trans ((F_X6_ahead_0_43_r rfl).trans (ftl_X6_ahead_43))
theorem ft_X6_ahead_44 : F_X6_ahead 44 = J_getfield 6 3 47 := (F_X6_ahead_0_89_r rfl).trans ((F_X6_ahead_44_89_l rfl).trans (ftl_X6_ahead_44))
theorem ft_X6_ahead_47 : F_X6_ahead 47 = J_callV 4 S_X4_take 1 50 := (F_X6_ahead_0_89_r rfl).trans ((F_X6_ahead_44_89_l rfl).trans (ftl_X6_ahead_47))
theorem ft_X6_ahead_50 : F_X6_ahead 50 = J_aload 0 51 := (F_X6_ahead_0_89_r rfl).trans ((F_X6_ahead_44_89_l rfl).trans (ftl_X6_ahead_50))
theorem ft_X6_ahead_51 : F_X6_ahead 51 = J_getfield 6 2 54 := (F_X6_ahead_0_89_r rfl).trans ((F_X6_ahead_44_89_l rfl).trans (ftl_X6_ahead_51))
theorem ft_X6_ahead_54 : F_X6_ahead 54 = J_aload 0 55 := (F_X6_ahead_0_89_r rfl).trans ((F_X6_ahead_44_89_l rfl).trans (ftl_X6_ahead_54))
theorem ft_X6_ahead_55 : F_X6_ahead 55 = J_getfield 6 4 58 := (F_X6_ahead_0_89_r rfl).trans ((F_X6_ahead_44_89_l rfl).trans (ftl_X6_ahead_55))
theorem ft_X6_ahead_58 : F_X6_ahead 58 = J_iload 1 59 := (F_X6_ahead_0_89_r rfl).trans ((F_X6_ahead_44_89_l rfl).trans (ftl_X6_ahead_58))
theorem ft_X6_ahead_59 : F_X6_ahead 59 = J_iload 2 60 := (F_X6_ahead_0_89_r rfl).trans ((F_X6_ahead_44_89_l rfl).trans (ftl_X6_ahead_59))
theorem ft_X6_ahead_60 : F_X6_ahead 60 = J_ifeq 67 63 := (F_X6_ahead_0_89_r rfl).trans ((F_X6_ahead_44_89_l rfl).trans (ftl_X6_ahead_60))
theorem ft_X6_ahead_63 : F_X6_ahead 63 = J_iconst 0 64 := (F_X6_ahead_0_89_r rfl).trans ((F_X6_ahead_44_89_l rfl).trans (ftl_X6_ahead_63))
theorem ft_X6_ahead_64 : F_X6_ahead 64 = J_goto 69 := (F_X6_ahead_0_89_r rfl).trans ((F_X6_ahead_44_89_l rfl).trans (ftl_X6_ahead_64))
theorem ft_X6_ahead_67 : F_X6_ahead 67 = J_iconst 15 69 := (F_X6_ahead_0_89_r rfl).trans ((F_X6_ahead_44_89_r rfl).trans (ftl_X6_ahead_67))
theorem ft_X6_ahead_69 : F_X6_ahead 69 = J_iconst 15 71 := (F_X6_ahead_0_89_r rfl).trans ((F_X6_ahead_44_89_r rfl).trans (ftl_X6_ahead_69))
theorem ft_X6_ahead_71 : F_X6_ahead 71 = J_iconst (-1) 72 := (F_X6_ahead_0_89_r rfl).trans ((F_X6_ahead_44_89_r rfl).trans (ftl_X6_ahead_71))
theorem ft_X6_ahead_72 : F_X6_ahead 72 = J_callV 0 S_X0_pass 5 75 := (F_X6_ahead_0_89_r rfl).trans ((F_X6_ahead_44_89_r rfl).trans (ftl_X6_ahead_72))
theorem ft_X6_ahead_75 : F_X6_ahead 75 = J_aload 0 76 := (F_X6_ahead_0_89_r rfl).trans ((F_X6_ahead_44_89_r rfl).trans (ftl_X6_ahead_75))
theorem ft_X6_ahead_76 : F_X6_ahead 76 = J_getfield 6 2 79 := (F_X6_ahead_0_89_r rfl).trans ((F_X6_ahead_44_89_r rfl).trans (ftl_X6_ahead_76))
theorem ft_X6_ahead_79 : F_X6_ahead 79 = J_aload 0 80 := (F_X6_ahead_0_89_r rfl).trans ((F_X6_ahead_44_89_r rfl).trans (ftl_X6_ahead_79))
theorem ft_X6_ahead_80 : F_X6_ahead 80 = J_getfield 6 4 83 := (F_X6_ahead_0_89_r rfl).trans ((F_X6_ahead_44_89_r rfl).trans (ftl_X6_ahead_80))
theorem ft_X6_ahead_83 : F_X6_ahead 83 = J_iload 3 84 := (F_X6_ahead_0_89_r rfl).trans ((F_X6_ahead_44_89_r rfl).trans (ftl_X6_ahead_83))
theorem ft_X6_ahead_84 : F_X6_ahead 84 = J_iload 4 86 := (F_X6_ahead_0_89_r rfl).trans ((F_X6_ahead_44_89_r rfl).trans (ftl_X6_ahead_84))
theorem ft_X6_ahead_86 : F_X6_ahead 86 = J_callV 0 S_X0_property 3 89 := (F_X6_ahead_0_89_r rfl).trans ((F_X6_ahead_44_89_r rfl).trans (ftl_X6_ahead_86))
theorem ft_X6_ahead_89 : F_X6_ahead 89 = J_ireturn 0 0 := (F_X6_ahead_0_89_r rfl).trans ((F_X6_ahead_44_89_r rfl).trans (ftl_X6_ahead_89))
theorem s_propH {nb : Nat} {C C' : Nat → Nat → Int32} {z : Nat → Int64} {p w : Int32} {Q : jQ} (v : Hv C C') (hQ : ∀ C'', Hv C C'' → Q (some (.int (propF (C 5) (C' 12) p w))) (memS 94 C'' z)) : S_X0_property nb [.ref 6, .ref 12, .int p, .int w] (memS 94 C' z) Q := by
  refine s_X0_property js_12 ?_
  unfold propF at hQ
  by_cases h : w = 9
  · rw [pick_t h, indexF_R, v.r 5 rfl]
    simp only [pick_t h] at hQ
    exact hQ _ v.h7
  · rw [pick_f h]
    simp only [pick_f h] at hQ
    exact hQ _ v
theorem ok_X6_ahead : jMeets Y_X6_ahead S_X6_ahead := by
  intro nb vs mem Q h
  obtain ⟨C, z, P, n, talk, p, w, rfl, rfl, r, hQ⟩ := h
  refine Ok.run OK_X6_ahead [] 80 [] pn6 (Nat.le_of_ble_eq_true rfl) rfl ?_
  simp -implicitDefEqProofs only [jr_0, jr_1, jr_2, j_iconst, j_lconst, j_iload0, j_aload0, j_istore0, j_astore0, j_iinc0, j_iload1, j_aload1, j_istore1, j_astore1, j_iinc1, j_iload2, j_aload2, j_istore2, j_astore2, j_iinc2, j_iload3, j_aload3, j_istore3, j_astore3, j_iinc3, j_iload4, j_aload4, j_istore4, j_astore4, j_iinc4, j_iload5, j_aload5, j_istore5, j_astore5, j_iinc5, j_iload6, j_aload6, j_istore6, j_astore6, j_iinc6, j_iload7, j_aload7, j_istore7, j_astore7, j_iinc7, j_iload8, j_aload8, j_istore8, j_astore8, j_iinc8, j_iadd, j_isub, j_imul, j_iand, j_ior, j_ixor, j_ishl, j_ishr, j_iushr, j_idiv, j_irem, j_ineg, j_ladd, j_lmul, j_land, j_lor, j_lcmp, j_lushr, j_lshl, j_i2l, j_l2i, j_dupI, j_dupR, j_popI, j_dup2, j_ifeq, j_iceq, j_ifne, j_icne, j_iflt, j_iclt, j_ifge, j_icge, j_ifgt, j_icgt, j_ifle, j_icle, j_goto, j_tsw, j_sw0, j_sw1, j_ireturn, j_zreturn, j_lreturn, j_return, j_getfield, j_putI, j_putJ, j_putR, j_iaload, j_baload, j_iastore, j_bastore, j_aaload, j_q, j_aastore, j_acopy, j_mmin, j_mmax, j_mabs, j_objinit, j_new, j_newI, j_newQ, j_sld, j_slen, j_callV0, j_callI0, j_callS0, j_callV1, j_callI1, j_callS1, j_callV2, j_callI2, j_callS2, j_callV3, j_callS3, j_callV4, j_callS4, j_callV5, j_callS5, j_pushS, j_pushN, j_sh0, j_sh1, j_sh2, j_sh3, j_sh4, Int32.reduceAdd, Int32.reduceMul, Int32.reduceSub, Int32.reduceLT, Int32.reduceLE, eq_self, i32_10, i32_01, ne_eq, hrow_s, hrow_n, ne10, ne100, ne1000, ne7, ne4, ne14, ne9973, or_true, true_or, or_false, false_or, not_true_eq_false, not_false_eq_true, false_implies, implies_true, and_true, forall_const, true_implies, jargs_n, jargs_r, jargs_i, List.cons_append, List.nil_append, true_and, Nat.reduceEqDiff, reduceIte, ft_X6_ahead_0, ft_X6_ahead_1, ft_X6_ahead_4, ft_X6_ahead_5, ft_X6_ahead_8, ft_X6_ahead_11, ft_X6_ahead_12, ft_X6_ahead_13, ft_X6_ahead_14, ft_X6_ahead_17, ft_X6_ahead_18, ft_X6_ahead_20, ft_X6_ahead_23, ft_X6_ahead_25, ft_X6_ahead_26, ft_X6_ahead_29, ft_X6_ahead_31, ft_X6_ahead_33, ft_X6_ahead_36, ft_X6_ahead_38, ft_X6_ahead_39, ft_X6_ahead_40, ft_X6_ahead_43, ft_X6_ahead_44, ft_X6_ahead_47, ft_X6_ahead_50, ft_X6_ahead_51, ft_X6_ahead_54, ft_X6_ahead_55, ft_X6_ahead_58, ft_X6_ahead_59, ft_X6_ahead_60, ft_X6_ahead_63, ft_X6_ahead_64, ft_X6_ahead_67, ft_X6_ahead_69, ft_X6_ahead_71, ft_X6_ahead_72, ft_X6_ahead_75, ft_X6_ahead_76, ft_X6_ahead_79, ft_X6_ahead_80, ft_X6_ahead_83, ft_X6_ahead_84, ft_X6_ahead_86, ft_X6_ahead_89, rc_0, rc_3, rc_6, fl_0_1, fl_0_2, fl_0_3, fl_0_4, jrcv_st js_12, s_okPost jD94, zb_0, s_takeT r.c12 r.c9]
  unfold aheadA at hQ
  by_cases h1 : okPost C p
  · simp only [pick_t h1] at hQ
    simp only [h1, not_true_eq_false, not_false_eq_true, true_implies, false_implies, implies_true, and_true, true_and, forall_const]
    by_cases h2 : (0 ≤ n ∧ n ≤ 99) ∧ 1 ≤ w ∧ w ≤ 9
    · simp only [pick_t h2] at hQ
      obtain ⟨⟨ha, hb⟩, hc, hd⟩ := h2
      simp only [Int32.not_lt.mpr ha, Int32.not_lt.mpr hb, Int32.not_lt.mpr hc, hd, not_true_eq_false, not_false_eq_true, true_implies, false_implies, implies_true, and_true, true_and, forall_const]
      obtain ⟨m, hm, rfl⟩ := i32_99 ha hb
      rw [nI_clamp (show m < 2 ^ 31 by omega)] at hQ
      by_cases h3 : talk = 0
      · simp only [pick_t h3] at hQ
        simp only [h3, not_true_eq_false, not_false_eq_true, true_implies, false_implies, implies_true, and_true, true_and, forall_const]
        refine s_passT (show m < 2 ^ 31 by omega) (r.go r.rf) r.hP r.h4 fun C2 h2 e2 => ?_
        rw [hrow_s] at e2
        simp -implicitDefEqProofs only [jr_0, jr_1, jr_2, j_iconst, j_lconst, j_iload0, j_aload0, j_istore0, j_astore0, j_iinc0, j_iload1, j_aload1, j_istore1, j_astore1, j_iinc1, j_iload2, j_aload2, j_istore2, j_astore2, j_iinc2, j_iload3, j_aload3, j_istore3, j_astore3, j_iinc3, j_iload4, j_aload4, j_istore4, j_astore4, j_iinc4, j_iload5, j_aload5, j_istore5, j_astore5, j_iinc5, j_iload6, j_aload6, j_istore6, j_astore6, j_iinc6, j_iload7, j_aload7, j_istore7, j_astore7, j_iinc7, j_iload8, j_aload8, j_istore8, j_astore8, j_iinc8, j_iadd, j_isub, j_imul, j_iand, j_ior, j_ixor, j_ishl, j_ishr, j_iushr, j_idiv, j_irem, j_ineg, j_ladd, j_lmul, j_land, j_lor, j_lcmp, j_lushr, j_lshl, j_i2l, j_l2i, j_dupI, j_dupR, j_popI, j_dup2, j_ifeq, j_iceq, j_ifne, j_icne, j_iflt, j_iclt, j_ifge, j_icge, j_ifgt, j_icgt, j_ifle, j_icle, j_goto, j_tsw, j_sw0, j_sw1, j_ireturn, j_zreturn, j_lreturn, j_return, j_getfield, j_putI, j_putJ, j_putR, j_iaload, j_baload, j_iastore, j_bastore, j_aaload, j_q, j_aastore, j_acopy, j_mmin, j_mmax, j_mabs, j_objinit, j_new, j_newI, j_newQ, j_sld, j_slen, j_callV0, j_callI0, j_callS0, j_callV1, j_callI1, j_callS1, j_callV2, j_callI2, j_callS2, j_callV3, j_callS3, j_callV4, j_callS4, j_callV5, j_callS5, j_pushS, j_pushN, j_sh0, j_sh1, j_sh2, j_sh3, j_sh4, Int32.reduceAdd, Int32.reduceMul, Int32.reduceSub, Int32.reduceLT, Int32.reduceLE, eq_self, i32_10, i32_01, ne_eq, hrow_s, hrow_n, ne10, ne100, ne1000, ne7, ne4, ne14, ne9973, or_true, true_or, or_false, false_or, not_true_eq_false, not_false_eq_true, false_implies, implies_true, and_true, forall_const, true_implies, jargs_n, jargs_r, jargs_i, List.cons_append, List.nil_append, true_and, Nat.reduceEqDiff, reduceIte, ft_X6_ahead_0, ft_X6_ahead_1, ft_X6_ahead_4, ft_X6_ahead_5, ft_X6_ahead_8, ft_X6_ahead_11, ft_X6_ahead_12, ft_X6_ahead_13, ft_X6_ahead_14, ft_X6_ahead_17, ft_X6_ahead_18, ft_X6_ahead_20, ft_X6_ahead_23, ft_X6_ahead_25, ft_X6_ahead_26, ft_X6_ahead_29, ft_X6_ahead_31, ft_X6_ahead_33, ft_X6_ahead_36, ft_X6_ahead_38, ft_X6_ahead_39, ft_X6_ahead_40, ft_X6_ahead_43, ft_X6_ahead_44, ft_X6_ahead_47, ft_X6_ahead_50, ft_X6_ahead_51, ft_X6_ahead_54, ft_X6_ahead_55, ft_X6_ahead_58, ft_X6_ahead_59, ft_X6_ahead_60, ft_X6_ahead_63, ft_X6_ahead_64, ft_X6_ahead_67, ft_X6_ahead_69, ft_X6_ahead_71, ft_X6_ahead_72, ft_X6_ahead_75, ft_X6_ahead_76, ft_X6_ahead_79, ft_X6_ahead_80, ft_X6_ahead_83, ft_X6_ahead_84, ft_X6_ahead_86, ft_X6_ahead_89, rc_0, rc_3, rc_6, fl_0_1, fl_0_2, fl_0_3, fl_0_4, jrcv_st js_12]
        refine s_propH h2 fun C3 h3 => ?_
        simp -implicitDefEqProofs only [jr_0, jr_1, jr_2, j_iconst, j_lconst, j_iload0, j_aload0, j_istore0, j_astore0, j_iinc0, j_iload1, j_aload1, j_istore1, j_astore1, j_iinc1, j_iload2, j_aload2, j_istore2, j_astore2, j_iinc2, j_iload3, j_aload3, j_istore3, j_astore3, j_iinc3, j_iload4, j_aload4, j_istore4, j_astore4, j_iinc4, j_iload5, j_aload5, j_istore5, j_astore5, j_iinc5, j_iload6, j_aload6, j_istore6, j_astore6, j_iinc6, j_iload7, j_aload7, j_istore7, j_astore7, j_iinc7, j_iload8, j_aload8, j_istore8, j_astore8, j_iinc8, j_iadd, j_isub, j_imul, j_iand, j_ior, j_ixor, j_ishl, j_ishr, j_iushr, j_idiv, j_irem, j_ineg, j_ladd, j_lmul, j_land, j_lor, j_lcmp, j_lushr, j_lshl, j_i2l, j_l2i, j_dupI, j_dupR, j_popI, j_dup2, j_ifeq, j_iceq, j_ifne, j_icne, j_iflt, j_iclt, j_ifge, j_icge, j_ifgt, j_icgt, j_ifle, j_icle, j_goto, j_tsw, j_sw0, j_sw1, j_ireturn, j_zreturn, j_lreturn, j_return, j_getfield, j_putI, j_putJ, j_putR, j_iaload, j_baload, j_iastore, j_bastore, j_aaload, j_q, j_aastore, j_acopy, j_mmin, j_mmax, j_mabs, j_objinit, j_new, j_newI, j_newQ, j_sld, j_slen, j_callV0, j_callI0, j_callS0, j_callV1, j_callI1, j_callS1, j_callV2, j_callI2, j_callS2, j_callV3, j_callS3, j_callV4, j_callS4, j_callV5, j_callS5, j_pushS, j_pushN, j_sh0, j_sh1, j_sh2, j_sh3, j_sh4, Int32.reduceAdd, Int32.reduceMul, Int32.reduceSub, Int32.reduceLT, Int32.reduceLE, eq_self, i32_10, i32_01, ne_eq, hrow_s, hrow_n, ne10, ne100, ne1000, ne7, ne4, ne14, ne9973, or_true, true_or, or_false, false_or, not_true_eq_false, not_false_eq_true, false_implies, implies_true, and_true, forall_const, true_implies, jargs_n, jargs_r, jargs_i, List.cons_append, List.nil_append, true_and, Nat.reduceEqDiff, reduceIte, ft_X6_ahead_0, ft_X6_ahead_1, ft_X6_ahead_4, ft_X6_ahead_5, ft_X6_ahead_8, ft_X6_ahead_11, ft_X6_ahead_12, ft_X6_ahead_13, ft_X6_ahead_14, ft_X6_ahead_17, ft_X6_ahead_18, ft_X6_ahead_20, ft_X6_ahead_23, ft_X6_ahead_25, ft_X6_ahead_26, ft_X6_ahead_29, ft_X6_ahead_31, ft_X6_ahead_33, ft_X6_ahead_36, ft_X6_ahead_38, ft_X6_ahead_39, ft_X6_ahead_40, ft_X6_ahead_43, ft_X6_ahead_44, ft_X6_ahead_47, ft_X6_ahead_50, ft_X6_ahead_51, ft_X6_ahead_54, ft_X6_ahead_55, ft_X6_ahead_58, ft_X6_ahead_59, ft_X6_ahead_60, ft_X6_ahead_63, ft_X6_ahead_64, ft_X6_ahead_67, ft_X6_ahead_69, ft_X6_ahead_71, ft_X6_ahead_72, ft_X6_ahead_75, ft_X6_ahead_76, ft_X6_ahead_79, ft_X6_ahead_80, ft_X6_ahead_83, ft_X6_ahead_84, ft_X6_ahead_86, ft_X6_ahead_89]
        rw [e2]
        exact hQ C3 h3
      · simp only [pick_f h3] at hQ
        simp only [h3, not_true_eq_false, not_false_eq_true, true_implies, false_implies, implies_true, and_true, true_and, forall_const]
        refine s_passT (show m < 2 ^ 31 by omega) (r.go r.rf) r.hP r.h4 fun C2 h2 e2 => ?_
        rw [hrow_s] at e2
        simp -implicitDefEqProofs only [jr_0, jr_1, jr_2, j_iconst, j_lconst, j_iload0, j_aload0, j_istore0, j_astore0, j_iinc0, j_iload1, j_aload1, j_istore1, j_astore1, j_iinc1, j_iload2, j_aload2, j_istore2, j_astore2, j_iinc2, j_iload3, j_aload3, j_istore3, j_astore3, j_iinc3, j_iload4, j_aload4, j_istore4, j_astore4, j_iinc4, j_iload5, j_aload5, j_istore5, j_astore5, j_iinc5, j_iload6, j_aload6, j_istore6, j_astore6, j_iinc6, j_iload7, j_aload7, j_istore7, j_astore7, j_iinc7, j_iload8, j_aload8, j_istore8, j_astore8, j_iinc8, j_iadd, j_isub, j_imul, j_iand, j_ior, j_ixor, j_ishl, j_ishr, j_iushr, j_idiv, j_irem, j_ineg, j_ladd, j_lmul, j_land, j_lor, j_lcmp, j_lushr, j_lshl, j_i2l, j_l2i, j_dupI, j_dupR, j_popI, j_dup2, j_ifeq, j_iceq, j_ifne, j_icne, j_iflt, j_iclt, j_ifge, j_icge, j_ifgt, j_icgt, j_ifle, j_icle, j_goto, j_tsw, j_sw0, j_sw1, j_ireturn, j_zreturn, j_lreturn, j_return, j_getfield, j_putI, j_putJ, j_putR, j_iaload, j_baload, j_iastore, j_bastore, j_aaload, j_q, j_aastore, j_acopy, j_mmin, j_mmax, j_mabs, j_objinit, j_new, j_newI, j_newQ, j_sld, j_slen, j_callV0, j_callI0, j_callS0, j_callV1, j_callI1, j_callS1, j_callV2, j_callI2, j_callS2, j_callV3, j_callS3, j_callV4, j_callS4, j_callV5, j_callS5, j_pushS, j_pushN, j_sh0, j_sh1, j_sh2, j_sh3, j_sh4, Int32.reduceAdd, Int32.reduceMul, Int32.reduceSub, Int32.reduceLT, Int32.reduceLE, eq_self, i32_10, i32_01, ne_eq, hrow_s, hrow_n, ne10, ne100, ne1000, ne7, ne4, ne14, ne9973, or_true, true_or, or_false, false_or, not_true_eq_false, not_false_eq_true, false_implies, implies_true, and_true, forall_const, true_implies, jargs_n, jargs_r, jargs_i, List.cons_append, List.nil_append, true_and, Nat.reduceEqDiff, reduceIte, ft_X6_ahead_0, ft_X6_ahead_1, ft_X6_ahead_4, ft_X6_ahead_5, ft_X6_ahead_8, ft_X6_ahead_11, ft_X6_ahead_12, ft_X6_ahead_13, ft_X6_ahead_14, ft_X6_ahead_17, ft_X6_ahead_18, ft_X6_ahead_20, ft_X6_ahead_23, ft_X6_ahead_25, ft_X6_ahead_26, ft_X6_ahead_29, ft_X6_ahead_31, ft_X6_ahead_33, ft_X6_ahead_36, ft_X6_ahead_38, ft_X6_ahead_39, ft_X6_ahead_40, ft_X6_ahead_43, ft_X6_ahead_44, ft_X6_ahead_47, ft_X6_ahead_50, ft_X6_ahead_51, ft_X6_ahead_54, ft_X6_ahead_55, ft_X6_ahead_58, ft_X6_ahead_59, ft_X6_ahead_60, ft_X6_ahead_63, ft_X6_ahead_64, ft_X6_ahead_67, ft_X6_ahead_69, ft_X6_ahead_71, ft_X6_ahead_72, ft_X6_ahead_75, ft_X6_ahead_76, ft_X6_ahead_79, ft_X6_ahead_80, ft_X6_ahead_83, ft_X6_ahead_84, ft_X6_ahead_86, ft_X6_ahead_89, rc_0, rc_3, rc_6, fl_0_1, fl_0_2, fl_0_3, fl_0_4, jrcv_st js_12]
        refine s_propH h2 fun C3 h3 => ?_
        simp -implicitDefEqProofs only [jr_0, jr_1, jr_2, j_iconst, j_lconst, j_iload0, j_aload0, j_istore0, j_astore0, j_iinc0, j_iload1, j_aload1, j_istore1, j_astore1, j_iinc1, j_iload2, j_aload2, j_istore2, j_astore2, j_iinc2, j_iload3, j_aload3, j_istore3, j_astore3, j_iinc3, j_iload4, j_aload4, j_istore4, j_astore4, j_iinc4, j_iload5, j_aload5, j_istore5, j_astore5, j_iinc5, j_iload6, j_aload6, j_istore6, j_astore6, j_iinc6, j_iload7, j_aload7, j_istore7, j_astore7, j_iinc7, j_iload8, j_aload8, j_istore8, j_astore8, j_iinc8, j_iadd, j_isub, j_imul, j_iand, j_ior, j_ixor, j_ishl, j_ishr, j_iushr, j_idiv, j_irem, j_ineg, j_ladd, j_lmul, j_land, j_lor, j_lcmp, j_lushr, j_lshl, j_i2l, j_l2i, j_dupI, j_dupR, j_popI, j_dup2, j_ifeq, j_iceq, j_ifne, j_icne, j_iflt, j_iclt, j_ifge, j_icge, j_ifgt, j_icgt, j_ifle, j_icle, j_goto, j_tsw, j_sw0, j_sw1, j_ireturn, j_zreturn, j_lreturn, j_return, j_getfield, j_putI, j_putJ, j_putR, j_iaload, j_baload, j_iastore, j_bastore, j_aaload, j_q, j_aastore, j_acopy, j_mmin, j_mmax, j_mabs, j_objinit, j_new, j_newI, j_newQ, j_sld, j_slen, j_callV0, j_callI0, j_callS0, j_callV1, j_callI1, j_callS1, j_callV2, j_callI2, j_callS2, j_callV3, j_callS3, j_callV4, j_callS4, j_callV5, j_callS5, j_pushS, j_pushN, j_sh0, j_sh1, j_sh2, j_sh3, j_sh4, Int32.reduceAdd, Int32.reduceMul, Int32.reduceSub, Int32.reduceLT, Int32.reduceLE, eq_self, i32_10, i32_01, ne_eq, hrow_s, hrow_n, ne10, ne100, ne1000, ne7, ne4, ne14, ne9973, or_true, true_or, or_false, false_or, not_true_eq_false, not_false_eq_true, false_implies, implies_true, and_true, forall_const, true_implies, jargs_n, jargs_r, jargs_i, List.cons_append, List.nil_append, true_and, Nat.reduceEqDiff, reduceIte, ft_X6_ahead_0, ft_X6_ahead_1, ft_X6_ahead_4, ft_X6_ahead_5, ft_X6_ahead_8, ft_X6_ahead_11, ft_X6_ahead_12, ft_X6_ahead_13, ft_X6_ahead_14, ft_X6_ahead_17, ft_X6_ahead_18, ft_X6_ahead_20, ft_X6_ahead_23, ft_X6_ahead_25, ft_X6_ahead_26, ft_X6_ahead_29, ft_X6_ahead_31, ft_X6_ahead_33, ft_X6_ahead_36, ft_X6_ahead_38, ft_X6_ahead_39, ft_X6_ahead_40, ft_X6_ahead_43, ft_X6_ahead_44, ft_X6_ahead_47, ft_X6_ahead_50, ft_X6_ahead_51, ft_X6_ahead_54, ft_X6_ahead_55, ft_X6_ahead_58, ft_X6_ahead_59, ft_X6_ahead_60, ft_X6_ahead_63, ft_X6_ahead_64, ft_X6_ahead_67, ft_X6_ahead_69, ft_X6_ahead_71, ft_X6_ahead_72, ft_X6_ahead_75, ft_X6_ahead_76, ft_X6_ahead_79, ft_X6_ahead_80, ft_X6_ahead_83, ft_X6_ahead_84, ft_X6_ahead_86, ft_X6_ahead_89]
        rw [e2]
        exact hQ C3 h3
    · simp only [pick_f h2] at hQ
      have hq := hQ C r.rf
      by_cases a1 : n < 0
      · simp only [a1, not_true_eq_false, not_false_eq_true, true_implies, false_implies, implies_true, and_true, true_and, forall_const]; exact hq
      · by_cases a2 : ¬ 99 < n
        · by_cases a3 : w < 1
          · simp only [a1, a2, a3, not_true_eq_false, not_false_eq_true, true_implies, false_implies, implies_true, and_true, true_and, forall_const]; exact hq
          · by_cases a4 : ¬ w ≤ 9
            · simp only [a1, a2, a3, a4, not_true_eq_false, not_false_eq_true, true_implies, false_implies, implies_true, and_true, true_and, forall_const]; exact hq
            · exact absurd ⟨⟨Int32.not_lt.mp a1, Int32.not_lt.mp a2⟩, Int32.not_lt.mp a3, Classical.not_not.mp a4⟩ h2
        · have a2' := Classical.not_not.mp a2; simp only [a1, a2', not_true_eq_false, not_false_eq_true, true_implies, false_implies, implies_true, and_true, true_and, forall_const]; exact hq
  · simp only [pick_f h1] at hQ
    simp only [h1, not_true_eq_false, not_false_eq_true, true_implies, false_implies, implies_true, and_true, true_and, forall_const]
    exact hQ C r.rf
theorem s_X6_ahead {nb P : Nat} {C : Nat → Nat → Int32} {z : Nat → Int64} {n talk p w : Int32} {Q : jQ} (r : RC C P) (hQ : ∀ C', Hv C C' → Q (some (.int (aheadA C n talk p w))) (memS 94 C' z)) : S_X6_ahead nb [.ref 0, .int n, .int talk, .int p, .int w] (memS 94 C z) Q := ⟨C, z, P, n, talk, p, w, rfl, rfl, r, hQ⟩
/-! done -/
noncomputable def dnF (C : Nat → Nat → Int32) (c : Int32) : Nat → Nat → (Nat → Int32) → Int32
  | 0, _, _ => -9
  | k + 1, j, ρ => pick (rrest ρ c = 0) (nI j) (dnF C c k (j + 1) (goF C 0 15 (-1) 1 ρ))
noncomputable def doneA (C : Nat → Nat → Int32) (c : Int32) : Int32 := pick (okCar C c) (dnF C c 100 0 (C 9)) (-1)
def S_X6_done : jSp := fun _ vs mem Q => ∃ C z P, ∃ c : Int32, vs = [.ref 0, .int c] ∧ mem = memS 94 C z ∧ RC C P ∧ ∀ C', Hv C C' → Q (some (.int (doneA C c))) (memS 94 C' z)
def F_X6_done_0 : Nat → jT := fun pc => (bif Nat.blt pc 8 then (bif Nat.blt pc 4 then (bif Nat.blt pc 1 then (bif Nat.beq pc 0 then J_aload 0 1 else jbad) else (bif Nat.beq pc 1 then J_getfield 6 1 4 else jbad)) else (bif Nat.blt pc 5 then (bif Nat.beq pc 4 then J_iload 1 5 else jbad) else (bif Nat.beq pc 5 then J_callV 3 S_X3_hasCar 1 8 else jbad))) else (bif Nat.blt pc 12 then (bif Nat.blt pc 11 then (bif Nat.beq pc 8 then J_ifne 13 11 else jbad) else (bif Nat.beq pc 11 then J_iconst (-1) 12 else jbad)) else (bif Nat.blt pc 13 then (bif Nat.beq pc 12 then J_ireturn 0 0 else jbad) else (bif Nat.blt pc 14 then (bif Nat.beq pc 13 then J_aload 0 14 else jbad) else (bif Nat.beq pc 14 then J_getfield 6 4 17 else jbad)))))
theorem ftl_X6_done_0 : F_X6_done_0 0 = J_aload 0 1 := rfl
theorem ftl_X6_done_1 : F_X6_done_0 1 = J_getfield 6 1 4 := rfl
theorem ftl_X6_done_4 : F_X6_done_0 4 = J_iload 1 5 := rfl
theorem ftl_X6_done_5 : F_X6_done_0 5 = J_callV 3 S_X3_hasCar 1 8 := rfl
theorem ftl_X6_done_8 : F_X6_done_0 8 = J_ifne 13 11 := rfl
theorem ftl_X6_done_11 : F_X6_done_0 11 = J_iconst (-1) 12 := rfl
theorem ftl_X6_done_12 : F_X6_done_0 12 = J_ireturn 0 0 := rfl
theorem ftl_X6_done_13 : F_X6_done_0 13 = J_aload 0 14 := rfl
theorem ftl_X6_done_14 : F_X6_done_0 14 = J_getfield 6 4 17 := rfl
theorem F_X6_done_0_ok : jOK Y_X6_done none (F_X6_done_0) := (jOK_node (jOK_node (jOK_node (jOK_leaf (sn_aload_n dX6_done_0 rfl rfl)) (jOK_leaf (sn_getfield dX6_done_1 rfl rfl (by decide) tw_167 jin6))) (jOK_node (jOK_leaf (sn_iload_n dX6_done_4 rfl rfl)) (jOK_leaf (sn_callV (Y' := Y_X3_hasCar) ok_X3_hasCar dX6_done_5 rfl rfl rfl tw_320 tw_159 tw_160 tw_3 jc_X3_hasCar rfl ⟨by decide, by decide, rfl⟩ ⟨by decide, by decide⟩)))) (jOK_node (jOK_node (jOK_leaf (sn_ifne dX6_done_8 rfl rfl)) (jOK_leaf (sn_iconst dX6_done_11 rfl rfl))) (jOK_node (jOK_leaf (sn_ireturn dX6_done_12 rfl rfl)) (jOK_node (jOK_leaf (sn_aload_n dX6_done_13 rfl rfl)) (jOK_leaf (sn_getfield dX6_done_14 rfl rfl (by decide) tw_170 jin6))))))
def F_X6_done_17 : Nat → jT := fun pc => (bif Nat.blt pc 25 then (bif Nat.blt pc 21 then (bif Nat.blt pc 18 then (bif Nat.beq pc 17 then J_aload 0 18 else jbad) else (bif Nat.beq pc 18 then J_getfield 6 3 21 else jbad)) else (bif Nat.blt pc 24 then (bif Nat.beq pc 21 then J_callV 4 S_X4_take 1 24 else jbad) else (bif Nat.beq pc 24 then J_iconst 0 25 else jbad))) else (bif Nat.blt pc 27 then (bif Nat.blt pc 26 then (bif Nat.beq pc 25 then J_istore 2 26 else jbad) else (bif Nat.beq pc 26 then J_iload 2 27 else jbad)) else (bif Nat.blt pc 29 then (bif Nat.beq pc 27 then J_iconst 99 29 else jbad) else (bif Nat.blt pc 32 then (bif Nat.beq pc 29 then J_icgt 67 32 else jbad) else (bif Nat.beq pc 32 then J_aload 0 33 else jbad)))))
theorem ftl_X6_done_17 : F_X6_done_17 17 = J_aload 0 18 := rfl
theorem ftl_X6_done_18 : F_X6_done_17 18 = J_getfield 6 3 21 := rfl
theorem ftl_X6_done_21 : F_X6_done_17 21 = J_callV 4 S_X4_take 1 24 := rfl
theorem ftl_X6_done_24 : F_X6_done_17 24 = J_iconst 0 25 := rfl
theorem ftl_X6_done_25 : F_X6_done_17 25 = J_istore 2 26 := rfl
theorem ftl_X6_done_26 : F_X6_done_17 26 = J_iload 2 27 := rfl
theorem ftl_X6_done_27 : F_X6_done_17 27 = J_iconst 99 29 := rfl
theorem ftl_X6_done_29 : F_X6_done_17 29 = J_icgt 67 32 := rfl
theorem ftl_X6_done_32 : F_X6_done_17 32 = J_aload 0 33 := rfl
theorem F_X6_done_17_ok : jOK Y_X6_done none (F_X6_done_17) := (jOK_node (jOK_node (jOK_node (jOK_leaf (sn_aload_n dX6_done_17 rfl rfl)) (jOK_leaf (sn_getfield dX6_done_18 rfl rfl (by decide) tw_169 jin6))) (jOK_node (jOK_leaf (sn_callV (Y' := Y_X4_take) ok_X4_take dX6_done_21 rfl rfl rfl tw_331 tw_332 tw_333 tw_5 jc_X4_take rfl ⟨by decide, by decide, rfl⟩ ⟨by decide, by decide⟩)) (jOK_leaf (sn_iconst dX6_done_24 rfl rfl)))) (jOK_node (jOK_node (jOK_leaf (sn_istore_n dX6_done_25 rfl rfl (by decide))) (jOK_leaf (sn_iload_n dX6_done_26 rfl rfl))) (jOK_node (jOK_leaf (sn_bipush dX6_done_27 rfl rfl)) (jOK_node (jOK_leaf (sn_icgt dX6_done_29 rfl rfl)) (jOK_leaf (sn_aload_n dX6_done_32 rfl rfl))))))
def F_X6_done_0_32 : Nat → jT := fun pc => bif Nat.blt pc 17 then F_X6_done_0 pc else F_X6_done_17 pc
theorem F_X6_done_0_32_l {pc : Nat} (h : Nat.blt pc 17 = true) : F_X6_done_0_32 pc = F_X6_done_0 pc := by unfold F_X6_done_0_32; rw [h]; rfl
theorem F_X6_done_0_32_r {pc : Nat} (h : Nat.blt pc 17 = false) : F_X6_done_0_32 pc = F_X6_done_17 pc := by unfold F_X6_done_0_32; rw [h]; rfl
theorem F_X6_done_0_32_ok : jOK Y_X6_done none (F_X6_done_0_32) := jOK_node (F_X6_done_0_ok) (F_X6_done_17_ok)
def F_X6_done_33 : Nat → jT := fun pc => (bif Nat.blt pc 43 then (bif Nat.blt pc 37 then (bif Nat.blt pc 36 then (bif Nat.beq pc 33 then J_getfield 6 4 36 else jbad) else (bif Nat.beq pc 36 then J_iload 1 37 else jbad)) else (bif Nat.blt pc 40 then (bif Nat.beq pc 37 then J_callV 4 S_X4_restOf 1 40 else jbad) else (bif Nat.beq pc 40 then J_ifne 45 43 else jbad))) else (bif Nat.blt pc 45 then (bif Nat.blt pc 44 then (bif Nat.beq pc 43 then J_iload 2 44 else jbad) else (bif Nat.beq pc 44 then J_ireturn 0 0 else jbad)) else (bif Nat.blt pc 46 then (bif Nat.beq pc 45 then J_aload 0 46 else jbad) else (bif Nat.blt pc 49 then (bif Nat.beq pc 46 then J_getfield 6 2 49 else jbad) else (bif Nat.beq pc 49 then J_aload 0 50 else jbad)))))
theorem ftl_X6_done_33 : F_X6_done_33 33 = J_getfield 6 4 36 := rfl
theorem ftl_X6_done_36 : F_X6_done_33 36 = J_iload 1 37 := rfl
theorem ftl_X6_done_37 : F_X6_done_33 37 = J_callV 4 S_X4_restOf 1 40 := rfl
theorem ftl_X6_done_40 : F_X6_done_33 40 = J_ifne 45 43 := rfl
theorem ftl_X6_done_43 : F_X6_done_33 43 = J_iload 2 44 := rfl
theorem ftl_X6_done_44 : F_X6_done_33 44 = J_ireturn 0 0 := rfl
theorem ftl_X6_done_45 : F_X6_done_33 45 = J_aload 0 46 := rfl
theorem ftl_X6_done_46 : F_X6_done_33 46 = J_getfield 6 2 49 := rfl
theorem ftl_X6_done_49 : F_X6_done_33 49 = J_aload 0 50 := rfl
theorem F_X6_done_33_ok : jOK Y_X6_done none (F_X6_done_33) := (jOK_node (jOK_node (jOK_node (jOK_leaf (sn_getfield dX6_done_33 rfl rfl (by decide) tw_170 jin6)) (jOK_leaf (sn_iload_n dX6_done_36 rfl rfl))) (jOK_node (jOK_leaf (sn_callV (Y' := Y_X4_restOf) ok_X4_restOf dX6_done_37 rfl rfl rfl tw_321 tw_279 tw_280 tw_5 jc_X4_restOf rfl ⟨by decide, by decide, rfl⟩ ⟨by decide, by decide⟩)) (jOK_leaf (sn_ifne dX6_done_40 rfl rfl)))) (jOK_node (jOK_node (jOK_leaf (sn_iload_n dX6_done_43 rfl rfl)) (jOK_leaf (sn_ireturn dX6_done_44 rfl rfl))) (jOK_node (jOK_leaf (sn_aload_n dX6_done_45 rfl rfl)) (jOK_node (jOK_leaf (sn_getfield dX6_done_46 rfl rfl (by decide) tw_168 jin6)) (jOK_leaf (sn_aload_n dX6_done_49 rfl rfl))))))
def F_X6_done_50 : Nat → jT := fun pc => (bif Nat.blt pc 58 then (bif Nat.blt pc 54 then (bif Nat.blt pc 53 then (bif Nat.beq pc 50 then J_getfield 6 4 53 else jbad) else (bif Nat.beq pc 53 then J_iconst 1 54 else jbad)) else (bif Nat.blt pc 55 then (bif Nat.beq pc 54 then J_iconst 0 55 else jbad) else (bif Nat.blt pc 57 then (bif Nat.beq pc 55 then J_iconst 15 57 else jbad) else (bif Nat.beq pc 57 then J_iconst (-1) 58 else jbad)))) else (bif Nat.blt pc 64 then (bif Nat.blt pc 61 then (bif Nat.beq pc 58 then J_callV 0 S_X0_pass 5 61 else jbad) else (bif Nat.beq pc 61 then J_iinc 2 1 64 else jbad)) else (bif Nat.blt pc 67 then (bif Nat.beq pc 64 then J_goto 26 else jbad) else (bif Nat.blt pc 69 then (bif Nat.beq pc 67 then J_iconst (-9) 69 else jbad) else (bif Nat.beq pc 69 then J_ireturn 0 0 else jbad)))))
theorem ftl_X6_done_50 : F_X6_done_50 50 = J_getfield 6 4 53 := rfl
theorem ftl_X6_done_53 : F_X6_done_50 53 = J_iconst 1 54 := rfl
theorem ftl_X6_done_54 : F_X6_done_50 54 = J_iconst 0 55 := rfl
theorem ftl_X6_done_55 : F_X6_done_50 55 = J_iconst 15 57 := rfl
theorem ftl_X6_done_57 : F_X6_done_50 57 = J_iconst (-1) 58 := rfl
theorem ftl_X6_done_58 : F_X6_done_50 58 = J_callV 0 S_X0_pass 5 61 := rfl
theorem ftl_X6_done_61 : F_X6_done_50 61 = J_iinc 2 1 64 := rfl
theorem ftl_X6_done_64 : F_X6_done_50 64 = J_goto 26 := rfl
theorem ftl_X6_done_67 : F_X6_done_50 67 = J_iconst (-9) 69 := rfl
theorem ftl_X6_done_69 : F_X6_done_50 69 = J_ireturn 0 0 := rfl
theorem F_X6_done_50_ok : jOK Y_X6_done none (F_X6_done_50) := (jOK_node (jOK_node (jOK_node (jOK_leaf (sn_getfield dX6_done_50 rfl rfl (by decide) tw_170 jin6)) (jOK_leaf (sn_iconst dX6_done_53 rfl rfl))) (jOK_node (jOK_leaf (sn_iconst dX6_done_54 rfl rfl)) (jOK_node (jOK_leaf (sn_bipush dX6_done_55 rfl rfl)) (jOK_leaf (sn_iconst dX6_done_57 rfl rfl))))) (jOK_node (jOK_node (jOK_leaf (sn_callV (Y' := Y_X0_pass) ok_X0_pass dX6_done_58 rfl rfl rfl tw_483 tw_343 tw_344 tw_4 jc_X0_pass rfl ⟨by decide, by decide, rfl⟩ ⟨by decide, by decide⟩)) (jOK_leaf (sn_iinc dX6_done_61 rfl rfl (by decide)))) (jOK_node (jOK_leaf (sn_goto dX6_done_64 rfl)) (jOK_node (jOK_leaf (sn_bipush dX6_done_67 rfl rfl)) (jOK_leaf (sn_ireturn dX6_done_69 rfl rfl))))))
def F_X6_done_33_69 : Nat → jT := fun pc => bif Nat.blt pc 50 then F_X6_done_33 pc else F_X6_done_50 pc
theorem F_X6_done_33_69_l {pc : Nat} (h : Nat.blt pc 50 = true) : F_X6_done_33_69 pc = F_X6_done_33 pc := by unfold F_X6_done_33_69; rw [h]; rfl
theorem F_X6_done_33_69_r {pc : Nat} (h : Nat.blt pc 50 = false) : F_X6_done_33_69 pc = F_X6_done_50 pc := by unfold F_X6_done_33_69; rw [h]; rfl
theorem F_X6_done_33_69_ok : jOK Y_X6_done none (F_X6_done_33_69) := jOK_node (F_X6_done_33_ok) (F_X6_done_50_ok)
def F_X6_done_0_69 : Nat → jT := fun pc => bif Nat.blt pc 33 then F_X6_done_0_32 pc else F_X6_done_33_69 pc
theorem F_X6_done_0_69_l {pc : Nat} (h : Nat.blt pc 33 = true) : F_X6_done_0_69 pc = F_X6_done_0_32 pc := by unfold F_X6_done_0_69; rw [h]; rfl
theorem F_X6_done_0_69_r {pc : Nat} (h : Nat.blt pc 33 = false) : F_X6_done_0_69 pc = F_X6_done_33_69 pc := by unfold F_X6_done_0_69; rw [h]; rfl
theorem F_X6_done_0_69_ok : jOK Y_X6_done none (F_X6_done_0_69) := jOK_node (F_X6_done_0_32_ok) (F_X6_done_33_69_ok)
def F_X6_done : Nat → jT := F_X6_done_0_69
theorem OK_X6_done : jOK Y_X6_done none (F_X6_done) := F_X6_done_0_69_ok
theorem ft_X6_done_0 : F_X6_done 0 = J_aload 0 1 := (F_X6_done_0_69_l rfl).trans ((F_X6_done_0_32_l rfl).trans (ftl_X6_done_0))
theorem ft_X6_done_1 : F_X6_done 1 = J_getfield 6 1 4 := (F_X6_done_0_69_l rfl).trans ((F_X6_done_0_32_l rfl).trans (ftl_X6_done_1))
theorem ft_X6_done_4 : F_X6_done 4 = J_iload 1 5 := (F_X6_done_0_69_l rfl).trans ((F_X6_done_0_32_l rfl).trans (ftl_X6_done_4))
theorem ft_X6_done_5 : F_X6_done 5 = J_callV 3 S_X3_hasCar 1 8 := (F_X6_done_0_69_l rfl).trans ((F_X6_done_0_32_l rfl).trans (ftl_X6_done_5))
theorem ft_X6_done_8 : F_X6_done 8 = J_ifne 13 11 := (F_X6_done_0_69_l rfl).trans ((F_X6_done_0_32_l rfl).trans (ftl_X6_done_8))
theorem ft_X6_done_11 : F_X6_done 11 = J_iconst (-1) 12 := (F_X6_done_0_69_l rfl).trans ((F_X6_done_0_32_l rfl).trans (ftl_X6_done_11))
theorem ft_X6_done_12 : F_X6_done 12 = J_ireturn 0 0 := (F_X6_done_0_69_l rfl).trans ((F_X6_done_0_32_l rfl).trans (ftl_X6_done_12))
theorem ft_X6_done_13 : F_X6_done 13 = J_aload 0 14 := (F_X6_done_0_69_l rfl).trans ((F_X6_done_0_32_l rfl).trans (ftl_X6_done_13))
theorem ft_X6_done_14 : F_X6_done 14 = J_getfield 6 4 17 := (F_X6_done_0_69_l rfl).trans ((F_X6_done_0_32_l rfl).trans (ftl_X6_done_14))
theorem ft_X6_done_17 : F_X6_done 17 = J_aload 0 18 := (F_X6_done_0_69_l rfl).trans ((F_X6_done_0_32_r rfl).trans (ftl_X6_done_17))
theorem ft_X6_done_18 : F_X6_done 18 = J_getfield 6 3 21 := (F_X6_done_0_69_l rfl).trans ((F_X6_done_0_32_r rfl).trans (ftl_X6_done_18))
theorem ft_X6_done_21 : F_X6_done 21 = J_callV 4 S_X4_take 1 24 := (F_X6_done_0_69_l rfl).trans ((F_X6_done_0_32_r rfl).trans (ftl_X6_done_21))
theorem ft_X6_done_24 : F_X6_done 24 = J_iconst 0 25 := (F_X6_done_0_69_l rfl).trans ((F_X6_done_0_32_r rfl).trans (ftl_X6_done_24))
theorem ft_X6_done_25 : F_X6_done 25 = J_istore 2 26 := (F_X6_done_0_69_l rfl).trans ((F_X6_done_0_32_r rfl).trans (ftl_X6_done_25))
theorem ft_X6_done_26 : F_X6_done 26 = J_iload 2 27 := (F_X6_done_0_69_l rfl).trans ((F_X6_done_0_32_r rfl).trans (ftl_X6_done_26))
theorem ft_X6_done_27 : F_X6_done 27 = J_iconst 99 29 := (F_X6_done_0_69_l rfl).trans ((F_X6_done_0_32_r rfl).trans (ftl_X6_done_27))
theorem ft_X6_done_29 : F_X6_done 29 = J_icgt 67 32 := (F_X6_done_0_69_l rfl).trans ((F_X6_done_0_32_r rfl).trans (ftl_X6_done_29))
theorem ft_X6_done_32 : F_X6_done 32 = J_aload 0 33 := (F_X6_done_0_69_l rfl).trans ((F_X6_done_0_32_r rfl).trans (ftl_X6_done_32))
theorem ft_X6_done_33 : F_X6_done 33 = J_getfield 6 4 36 := (F_X6_done_0_69_r rfl).trans ((F_X6_done_33_69_l rfl).trans (ftl_X6_done_33))
theorem ft_X6_done_36 : F_X6_done 36 = J_iload 1 37 := (F_X6_done_0_69_r rfl).trans ((F_X6_done_33_69_l rfl).trans (ftl_X6_done_36))
theorem ft_X6_done_37 : F_X6_done 37 = J_callV 4 S_X4_restOf 1 40 := (F_X6_done_0_69_r rfl).trans ((F_X6_done_33_69_l rfl).trans (ftl_X6_done_37))
theorem ft_X6_done_40 : F_X6_done 40 = J_ifne 45 43 := (F_X6_done_0_69_r rfl).trans ((F_X6_done_33_69_l rfl).trans (ftl_X6_done_40))
theorem ft_X6_done_43 : F_X6_done 43 = J_iload 2 44 := (F_X6_done_0_69_r rfl).trans ((F_X6_done_33_69_l rfl).trans (ftl_X6_done_43))
theorem ft_X6_done_44 : F_X6_done 44 = J_ireturn 0 0 := (F_X6_done_0_69_r rfl).trans ((F_X6_done_33_69_l rfl).trans (ftl_X6_done_44))
theorem ft_X6_done_45 : F_X6_done 45 = J_aload 0 46 := (F_X6_done_0_69_r rfl).trans ((F_X6_done_33_69_l rfl).trans (ftl_X6_done_45))
theorem ft_X6_done_46 : F_X6_done 46 = J_getfield 6 2 49 := (F_X6_done_0_69_r rfl).trans ((F_X6_done_33_69_l rfl).trans (ftl_X6_done_46))
theorem ft_X6_done_49 : F_X6_done 49 = J_aload 0 50 := (F_X6_done_0_69_r rfl).trans ((F_X6_done_33_69_l rfl).trans (ftl_X6_done_49))
theorem ft_X6_done_50 : F_X6_done 50 = J_getfield 6 4 53 := (F_X6_done_0_69_r rfl).trans ((F_X6_done_33_69_r rfl).trans (ftl_X6_done_50))
theorem ft_X6_done_53 : F_X6_done 53 = J_iconst 1 54 := (F_X6_done_0_69_r rfl).trans ((F_X6_done_33_69_r rfl).trans (ftl_X6_done_53))
theorem ft_X6_done_54 : F_X6_done 54 = J_iconst 0 55 := (F_X6_done_0_69_r rfl).trans ((F_X6_done_33_69_r rfl).trans (ftl_X6_done_54))
theorem ft_X6_done_55 : F_X6_done 55 = J_iconst 15 57 := (F_X6_done_0_69_r rfl).trans ((F_X6_done_33_69_r rfl).trans (ftl_X6_done_55))
theorem ft_X6_done_57 : F_X6_done 57 = J_iconst (-1) 58 := (F_X6_done_0_69_r rfl).trans ((F_X6_done_33_69_r rfl).trans (ftl_X6_done_57))
theorem ft_X6_done_58 : F_X6_done 58 = J_callV 0 S_X0_pass 5 61 := (F_X6_done_0_69_r rfl).trans ((F_X6_done_33_69_r rfl).trans (ftl_X6_done_58))
theorem ft_X6_done_61 : F_X6_done 61 = J_iinc 2 1 64 := (F_X6_done_0_69_r rfl).trans ((F_X6_done_33_69_r rfl).trans (ftl_X6_done_61))
theorem ft_X6_done_64 : F_X6_done 64 = J_goto 26 := (F_X6_done_0_69_r rfl).trans ((F_X6_done_33_69_r rfl).trans (ftl_X6_done_64))
theorem ft_X6_done_67 : F_X6_done 67 = J_iconst (-9) 69 := (F_X6_done_0_69_r rfl).trans ((F_X6_done_33_69_r rfl).trans (ftl_X6_done_67))
theorem ft_X6_done_69 : F_X6_done 69 = J_ireturn 0 0 := (F_X6_done_0_69_r rfl).trans ((F_X6_done_33_69_r rfl).trans (ftl_X6_done_69))
theorem lp_X6_done {Q : jQ} {C : Nat → Nat → Int32} {z : Nat → Int64} {nb P : Nat} {c : Int32} (r : RC C P) :
    ∀ k j, j + k = 100 → ∀ C1, Hv C C1 → (∀ C', Hv C C' → Q (some (.int (dnF C c k j (C1 12)))) (memS 94 C' z)) → Rn Y_X6_done none Q 26 [some (.ref 0), some (.int c), some (.int (nI j))] [] (memS 94 C1 z) (nb, 0, 0) := by
  intro k
  induction k with
  | zero =>
    intro j hj C1 v h
    have hc : (99 < nI j) = True := by rw [show j = 100 by omega]; exact eq_true (by decide)
    refine jrun_first OK_X6_done (C := [26]) 60 ?_
    simp -implicitDefEqProofs only [jr_0, jr_1, jr_2, j_iconst, j_lconst, j_iload0, j_aload0, j_istore0, j_astore0, j_iinc0, j_iload1, j_aload1, j_istore1, j_astore1, j_iinc1, j_iload2, j_aload2, j_istore2, j_astore2, j_iinc2, j_iload3, j_aload3, j_istore3, j_astore3, j_iinc3, j_iload4, j_aload4, j_istore4, j_astore4, j_iinc4, j_iload5, j_aload5, j_istore5, j_astore5, j_iinc5, j_iload6, j_aload6, j_istore6, j_astore6, j_iinc6, j_iload7, j_aload7, j_istore7, j_astore7, j_iinc7, j_iload8, j_aload8, j_istore8, j_astore8, j_iinc8, j_iadd, j_isub, j_imul, j_iand, j_ior, j_ixor, j_ishl, j_ishr, j_iushr, j_idiv, j_irem, j_ineg, j_ladd, j_lmul, j_land, j_lor, j_lcmp, j_lushr, j_lshl, j_i2l, j_l2i, j_dupI, j_dupR, j_popI, j_dup2, j_ifeq, j_iceq, j_ifne, j_icne, j_iflt, j_iclt, j_ifge, j_icge, j_ifgt, j_icgt, j_ifle, j_icle, j_goto, j_tsw, j_sw0, j_sw1, j_ireturn, j_zreturn, j_lreturn, j_return, j_getfield, j_putI, j_putJ, j_putR, j_iaload, j_baload, j_iastore, j_bastore, j_aaload, j_q, j_aastore, j_acopy, j_mmin, j_mmax, j_mabs, j_objinit, j_new, j_newI, j_newQ, j_sld, j_slen, j_callV0, j_callI0, j_callS0, j_callV1, j_callI1, j_callS1, j_callV2, j_callI2, j_callS2, j_callV3, j_callS3, j_callV4, j_callS4, j_callV5, j_callS5, j_pushS, j_pushN, j_sh0, j_sh1, j_sh2, j_sh3, j_sh4, Int32.reduceAdd, Int32.reduceMul, Int32.reduceSub, Int32.reduceLT, Int32.reduceLE, eq_self, i32_10, i32_01, ne_eq, hrow_s, hrow_n, ne10, ne100, ne1000, ne7, ne4, ne14, ne9973, or_true, true_or, or_false, false_or, not_true_eq_false, not_false_eq_true, false_implies, implies_true, and_true, forall_const, true_implies, jargs_n, jargs_r, jargs_i, List.cons_append, List.nil_append, true_and, Nat.reduceEqDiff, reduceIte, ft_X6_done_0, ft_X6_done_1, ft_X6_done_4, ft_X6_done_5, ft_X6_done_8, ft_X6_done_11, ft_X6_done_12, ft_X6_done_13, ft_X6_done_14, ft_X6_done_17, ft_X6_done_18, ft_X6_done_21, ft_X6_done_24, ft_X6_done_25, ft_X6_done_26, ft_X6_done_27, ft_X6_done_29, ft_X6_done_32, ft_X6_done_33, ft_X6_done_36, ft_X6_done_37, ft_X6_done_40, ft_X6_done_43, ft_X6_done_44, ft_X6_done_45, ft_X6_done_46, ft_X6_done_49, ft_X6_done_50, ft_X6_done_53, ft_X6_done_54, ft_X6_done_55, ft_X6_done_57, ft_X6_done_58, ft_X6_done_61, ft_X6_done_64, ft_X6_done_67, ft_X6_done_69, hc]
    exact h C1 v
  | succ k ih =>
    intro j hj C1 v h
    have hc : (99 < nI j) = False := eq_false (nI_nlt (a := 99) (by omega) (by decide))
    unfold dnF at h
    refine jrun_first OK_X6_done (C := [26]) 60 ?_
    simp -implicitDefEqProofs only [jr_0, jr_1, jr_2, j_iconst, j_lconst, j_iload0, j_aload0, j_istore0, j_astore0, j_iinc0, j_iload1, j_aload1, j_istore1, j_astore1, j_iinc1, j_iload2, j_aload2, j_istore2, j_astore2, j_iinc2, j_iload3, j_aload3, j_istore3, j_astore3, j_iinc3, j_iload4, j_aload4, j_istore4, j_astore4, j_iinc4, j_iload5, j_aload5, j_istore5, j_astore5, j_iinc5, j_iload6, j_aload6, j_istore6, j_astore6, j_iinc6, j_iload7, j_aload7, j_istore7, j_astore7, j_iinc7, j_iload8, j_aload8, j_istore8, j_astore8, j_iinc8, j_iadd, j_isub, j_imul, j_iand, j_ior, j_ixor, j_ishl, j_ishr, j_iushr, j_idiv, j_irem, j_ineg, j_ladd, j_lmul, j_land, j_lor, j_lcmp, j_lushr, j_lshl, j_i2l, j_l2i, j_dupI, j_dupR, j_popI, j_dup2, j_ifeq, j_iceq, j_ifne, j_icne, j_iflt, j_iclt, j_ifge, j_icge, j_ifgt, j_icgt, j_ifle, j_icle, j_goto, j_tsw, j_sw0, j_sw1, j_ireturn, j_zreturn, j_lreturn, j_return, j_getfield, j_putI, j_putJ, j_putR, j_iaload, j_baload, j_iastore, j_bastore, j_aaload, j_q, j_aastore, j_acopy, j_mmin, j_mmax, j_mabs, j_objinit, j_new, j_newI, j_newQ, j_sld, j_slen, j_callV0, j_callI0, j_callS0, j_callV1, j_callI1, j_callS1, j_callV2, j_callI2, j_callS2, j_callV3, j_callS3, j_callV4, j_callS4, j_callV5, j_callS5, j_pushS, j_pushN, j_sh0, j_sh1, j_sh2, j_sh3, j_sh4, Int32.reduceAdd, Int32.reduceMul, Int32.reduceSub, Int32.reduceLT, Int32.reduceLE, eq_self, i32_10, i32_01, ne_eq, hrow_s, hrow_n, ne10, ne100, ne1000, ne7, ne4, ne14, ne9973, or_true, true_or, or_false, false_or, not_true_eq_false, not_false_eq_true, false_implies, implies_true, and_true, forall_const, true_implies, jargs_n, jargs_r, jargs_i, List.cons_append, List.nil_append, true_and, Nat.reduceEqDiff, reduceIte, ft_X6_done_0, ft_X6_done_1, ft_X6_done_4, ft_X6_done_5, ft_X6_done_8, ft_X6_done_11, ft_X6_done_12, ft_X6_done_13, ft_X6_done_14, ft_X6_done_17, ft_X6_done_18, ft_X6_done_21, ft_X6_done_24, ft_X6_done_25, ft_X6_done_26, ft_X6_done_27, ft_X6_done_29, ft_X6_done_32, ft_X6_done_33, ft_X6_done_36, ft_X6_done_37, ft_X6_done_40, ft_X6_done_43, ft_X6_done_44, ft_X6_done_45, ft_X6_done_46, ft_X6_done_49, ft_X6_done_50, ft_X6_done_53, ft_X6_done_54, ft_X6_done_55, ft_X6_done_57, ft_X6_done_58, ft_X6_done_61, ft_X6_done_64, ft_X6_done_67, ft_X6_done_69, hc, fl_0_2, fl_0_4, rc_6, jrcv_st js_12, s_X4_restOf js_12]
    by_cases h0 : rrest (C1 12) c = 0
    · simp only [pick_t h0] at h
      simp only [h0, not_true_eq_false, not_false_eq_true, true_implies, false_implies, implies_true, and_true, true_and, forall_const]
      exact h C1 v
    · simp only [pick_f h0] at h
      simp only [h0, not_true_eq_false, not_false_eq_true, true_implies, false_implies, implies_true, and_true, true_and, forall_const]
      refine s_passT (n := 1) (by decide) v r.hP r.h4 fun C2 v2 e2 => ?_
      simp -implicitDefEqProofs only [jr_0, jr_1, jr_2, j_iconst, j_lconst, j_iload0, j_aload0, j_istore0, j_astore0, j_iinc0, j_iload1, j_aload1, j_istore1, j_astore1, j_iinc1, j_iload2, j_aload2, j_istore2, j_astore2, j_iinc2, j_iload3, j_aload3, j_istore3, j_astore3, j_iinc3, j_iload4, j_aload4, j_istore4, j_astore4, j_iinc4, j_iload5, j_aload5, j_istore5, j_astore5, j_iinc5, j_iload6, j_aload6, j_istore6, j_astore6, j_iinc6, j_iload7, j_aload7, j_istore7, j_astore7, j_iinc7, j_iload8, j_aload8, j_istore8, j_astore8, j_iinc8, j_iadd, j_isub, j_imul, j_iand, j_ior, j_ixor, j_ishl, j_ishr, j_iushr, j_idiv, j_irem, j_ineg, j_ladd, j_lmul, j_land, j_lor, j_lcmp, j_lushr, j_lshl, j_i2l, j_l2i, j_dupI, j_dupR, j_popI, j_dup2, j_ifeq, j_iceq, j_ifne, j_icne, j_iflt, j_iclt, j_ifge, j_icge, j_ifgt, j_icgt, j_ifle, j_icle, j_goto, j_tsw, j_sw0, j_sw1, j_ireturn, j_zreturn, j_lreturn, j_return, j_getfield, j_putI, j_putJ, j_putR, j_iaload, j_baload, j_iastore, j_bastore, j_aaload, j_q, j_aastore, j_acopy, j_mmin, j_mmax, j_mabs, j_objinit, j_new, j_newI, j_newQ, j_sld, j_slen, j_callV0, j_callI0, j_callS0, j_callV1, j_callI1, j_callS1, j_callV2, j_callI2, j_callS2, j_callV3, j_callS3, j_callV4, j_callS4, j_callV5, j_callS5, j_pushS, j_pushN, j_sh0, j_sh1, j_sh2, j_sh3, j_sh4, Int32.reduceAdd, Int32.reduceMul, Int32.reduceSub, Int32.reduceLT, Int32.reduceLE, eq_self, i32_10, i32_01, ne_eq, hrow_s, hrow_n, ne10, ne100, ne1000, ne7, ne4, ne14, ne9973, or_true, true_or, or_false, false_or, not_true_eq_false, not_false_eq_true, false_implies, implies_true, and_true, forall_const, true_implies, jargs_n, jargs_r, jargs_i, List.cons_append, List.nil_append, true_and, Nat.reduceEqDiff, reduceIte, ft_X6_done_0, ft_X6_done_1, ft_X6_done_4, ft_X6_done_5, ft_X6_done_8, ft_X6_done_11, ft_X6_done_12, ft_X6_done_13, ft_X6_done_14, ft_X6_done_17, ft_X6_done_18, ft_X6_done_21, ft_X6_done_24, ft_X6_done_25, ft_X6_done_26, ft_X6_done_27, ft_X6_done_29, ft_X6_done_32, ft_X6_done_33, ft_X6_done_36, ft_X6_done_37, ft_X6_done_40, ft_X6_done_43, ft_X6_done_44, ft_X6_done_45, ft_X6_done_46, ft_X6_done_49, ft_X6_done_50, ft_X6_done_53, ft_X6_done_54, ft_X6_done_55, ft_X6_done_57, ft_X6_done_58, ft_X6_done_61, ft_X6_done_64, ft_X6_done_67, ft_X6_done_69, nI_1]
      exact ih (j + 1) (by omega) C2 v2 (by rw [e2]; exact h)
theorem ok_X6_done : jMeets Y_X6_done S_X6_done := by
  intro nb vs mem Q h
  obtain ⟨C, z, P, c, rfl, rfl, r, hQ⟩ := h
  refine Ok.run OK_X6_done [26] 60 [none] pn6 (Nat.le_of_ble_eq_true rfl) rfl ?_
  simp -implicitDefEqProofs only [jr_0, jr_1, jr_2, j_iconst, j_lconst, j_iload0, j_aload0, j_istore0, j_astore0, j_iinc0, j_iload1, j_aload1, j_istore1, j_astore1, j_iinc1, j_iload2, j_aload2, j_istore2, j_astore2, j_iinc2, j_iload3, j_aload3, j_istore3, j_astore3, j_iinc3, j_iload4, j_aload4, j_istore4, j_astore4, j_iinc4, j_iload5, j_aload5, j_istore5, j_astore5, j_iinc5, j_iload6, j_aload6, j_istore6, j_astore6, j_iinc6, j_iload7, j_aload7, j_istore7, j_astore7, j_iinc7, j_iload8, j_aload8, j_istore8, j_astore8, j_iinc8, j_iadd, j_isub, j_imul, j_iand, j_ior, j_ixor, j_ishl, j_ishr, j_iushr, j_idiv, j_irem, j_ineg, j_ladd, j_lmul, j_land, j_lor, j_lcmp, j_lushr, j_lshl, j_i2l, j_l2i, j_dupI, j_dupR, j_popI, j_dup2, j_ifeq, j_iceq, j_ifne, j_icne, j_iflt, j_iclt, j_ifge, j_icge, j_ifgt, j_icgt, j_ifle, j_icle, j_goto, j_tsw, j_sw0, j_sw1, j_ireturn, j_zreturn, j_lreturn, j_return, j_getfield, j_putI, j_putJ, j_putR, j_iaload, j_baload, j_iastore, j_bastore, j_aaload, j_q, j_aastore, j_acopy, j_mmin, j_mmax, j_mabs, j_objinit, j_new, j_newI, j_newQ, j_sld, j_slen, j_callV0, j_callI0, j_callS0, j_callV1, j_callI1, j_callS1, j_callV2, j_callI2, j_callS2, j_callV3, j_callS3, j_callV4, j_callS4, j_callV5, j_callS5, j_pushS, j_pushN, j_sh0, j_sh1, j_sh2, j_sh3, j_sh4, Int32.reduceAdd, Int32.reduceMul, Int32.reduceSub, Int32.reduceLT, Int32.reduceLE, eq_self, i32_10, i32_01, ne_eq, hrow_s, hrow_n, ne10, ne100, ne1000, ne7, ne4, ne14, ne9973, or_true, true_or, or_false, false_or, not_true_eq_false, not_false_eq_true, false_implies, implies_true, and_true, forall_const, true_implies, jargs_n, jargs_r, jargs_i, List.cons_append, List.nil_append, true_and, Nat.reduceEqDiff, reduceIte, ft_X6_done_0, ft_X6_done_1, ft_X6_done_4, ft_X6_done_5, ft_X6_done_8, ft_X6_done_11, ft_X6_done_12, ft_X6_done_13, ft_X6_done_14, ft_X6_done_17, ft_X6_done_18, ft_X6_done_21, ft_X6_done_24, ft_X6_done_25, ft_X6_done_26, ft_X6_done_27, ft_X6_done_29, ft_X6_done_32, ft_X6_done_33, ft_X6_done_36, ft_X6_done_37, ft_X6_done_40, ft_X6_done_43, ft_X6_done_44, ft_X6_done_45, ft_X6_done_46, ft_X6_done_49, ft_X6_done_50, ft_X6_done_53, ft_X6_done_54, ft_X6_done_55, ft_X6_done_57, ft_X6_done_58, ft_X6_done_61, ft_X6_done_64, ft_X6_done_67, ft_X6_done_69, rc_3, fl_0_1, fl_0_3, fl_0_4, jrcv_st js_12, s_okCar jD94, zb_0, s_takeT r.c12 r.c9]
  unfold doneA at hQ
  by_cases h1 : okCar C c
  · simp only [pick_t h1] at hQ
    simp only [h1, not_true_eq_false, not_false_eq_true, true_implies, false_implies, implies_true, and_true, true_and, forall_const]
    exact lp_X6_done r 100 0 rfl _ (r.go r.rf) (by rw [hrow_s]; exact hQ)
  · simp only [pick_f h1] at hQ
    simp only [h1, not_true_eq_false, not_false_eq_true, true_implies, false_implies, implies_true, and_true, true_and, forall_const]
    exact hQ C r.rf
theorem s_X6_done {nb P : Nat} {C : Nat → Nat → Int32} {z : Nat → Int64} {c : Int32} {Q : jQ} (r : RC C P) (hQ : ∀ C', Hv C C' → Q (some (.int (doneA C c))) (memS 94 C' z)) : S_X6_done nb [.ref 0, .int c] (memS 94 C z) Q := ⟨C, z, P, c, rfl, rfl, r, hQ⟩
/-! allAmps, least -/
def ampS (f : Nat → Int32) : Nat → Int32
  | 0 => 0
  | k + 1 => ampS f k + ampsF f (nI k)
def S_X3_allAmps : jSp := fun _ vs mem Q => ∃ C z P, vs = [.ref 3] ∧ mem = memS 94 C z ∧ C 3 2 = nI P ∧ P ≤ 4 ∧ Q (some (.int (ampS (C 4) P))) (memS 94 C z)
def F_X3_allAmps_0 : Nat → jT := fun pc => (bif Nat.blt pc 4 then (bif Nat.blt pc 2 then (bif Nat.blt pc 1 then (bif Nat.beq pc 0 then J_iconst 0 1 else jbad) else (bif Nat.beq pc 1 then J_istore 1 2 else jbad)) else (bif Nat.blt pc 3 then (bif Nat.beq pc 2 then J_iconst 0 3 else jbad) else (bif Nat.beq pc 3 then J_istore 2 4 else jbad))) else (bif Nat.blt pc 6 then (bif Nat.blt pc 5 then (bif Nat.beq pc 4 then J_iload 2 5 else jbad) else (bif Nat.beq pc 5 then J_aload 0 6 else jbad)) else (bif Nat.blt pc 9 then (bif Nat.beq pc 6 then J_getfield 3 2 9 else jbad) else (bif Nat.blt pc 12 then (bif Nat.beq pc 9 then J_icge 26 12 else jbad) else (bif Nat.beq pc 12 then J_iload 1 13 else jbad)))))
theorem ftl_X3_allAmps_0 : F_X3_allAmps_0 0 = J_iconst 0 1 := rfl
theorem ftl_X3_allAmps_1 : F_X3_allAmps_0 1 = J_istore 1 2 := rfl
theorem ftl_X3_allAmps_2 : F_X3_allAmps_0 2 = J_iconst 0 3 := rfl
theorem ftl_X3_allAmps_3 : F_X3_allAmps_0 3 = J_istore 2 4 := rfl
theorem ftl_X3_allAmps_4 : F_X3_allAmps_0 4 = J_iload 2 5 := rfl
theorem ftl_X3_allAmps_5 : F_X3_allAmps_0 5 = J_aload 0 6 := rfl
theorem ftl_X3_allAmps_6 : F_X3_allAmps_0 6 = J_getfield 3 2 9 := rfl
theorem ftl_X3_allAmps_9 : F_X3_allAmps_0 9 = J_icge 26 12 := rfl
theorem ftl_X3_allAmps_12 : F_X3_allAmps_0 12 = J_iload 1 13 := rfl
theorem F_X3_allAmps_0_ok : jOK Y_X3_allAmps none (F_X3_allAmps_0) := (jOK_node (jOK_node (jOK_node (jOK_leaf (sn_iconst dX3_allAmps_0 rfl rfl)) (jOK_leaf (sn_istore_n dX3_allAmps_1 rfl rfl (by decide)))) (jOK_node (jOK_leaf (sn_iconst dX3_allAmps_2 rfl rfl)) (jOK_leaf (sn_istore_n dX3_allAmps_3 rfl rfl (by decide))))) (jOK_node (jOK_node (jOK_leaf (sn_iload_n dX3_allAmps_4 rfl rfl)) (jOK_leaf (sn_aload_n dX3_allAmps_5 rfl rfl))) (jOK_node (jOK_leaf (sn_getfield dX3_allAmps_6 rfl rfl (by decide) tw_44 jin3)) (jOK_node (jOK_leaf (sn_icge dX3_allAmps_9 rfl rfl)) (jOK_leaf (sn_iload_n dX3_allAmps_12 rfl rfl))))))
def F_X3_allAmps_13 : Nat → jT := fun pc => (bif Nat.blt pc 19 then (bif Nat.blt pc 15 then (bif Nat.blt pc 14 then (bif Nat.beq pc 13 then J_aload 0 14 else jbad) else (bif Nat.beq pc 14 then J_iload 2 15 else jbad)) else (bif Nat.blt pc 18 then (bif Nat.beq pc 15 then J_callV 3 S_X3_ampsOf 1 18 else jbad) else (bif Nat.beq pc 18 then J_iadd 19 else jbad))) else (bif Nat.blt pc 23 then (bif Nat.blt pc 20 then (bif Nat.beq pc 19 then J_istore 1 20 else jbad) else (bif Nat.beq pc 20 then J_iinc 2 1 23 else jbad)) else (bif Nat.blt pc 26 then (bif Nat.beq pc 23 then J_goto 4 else jbad) else (bif Nat.blt pc 27 then (bif Nat.beq pc 26 then J_iload 1 27 else jbad) else (bif Nat.beq pc 27 then J_ireturn 0 0 else jbad)))))
theorem ftl_X3_allAmps_13 : F_X3_allAmps_13 13 = J_aload 0 14 := rfl
theorem ftl_X3_allAmps_14 : F_X3_allAmps_13 14 = J_iload 2 15 := rfl
theorem ftl_X3_allAmps_15 : F_X3_allAmps_13 15 = J_callV 3 S_X3_ampsOf 1 18 := rfl
theorem ftl_X3_allAmps_18 : F_X3_allAmps_13 18 = J_iadd 19 := rfl
theorem ftl_X3_allAmps_19 : F_X3_allAmps_13 19 = J_istore 1 20 := rfl
theorem ftl_X3_allAmps_20 : F_X3_allAmps_13 20 = J_iinc 2 1 23 := rfl
theorem ftl_X3_allAmps_23 : F_X3_allAmps_13 23 = J_goto 4 := rfl
theorem ftl_X3_allAmps_26 : F_X3_allAmps_13 26 = J_iload 1 27 := rfl
theorem ftl_X3_allAmps_27 : F_X3_allAmps_13 27 = J_ireturn 0 0 := rfl
theorem F_X3_allAmps_13_ok : jOK Y_X3_allAmps none (F_X3_allAmps_13) := (jOK_node (jOK_node (jOK_node (jOK_leaf (sn_aload_n dX3_allAmps_13 rfl rfl)) (jOK_leaf (sn_iload_n dX3_allAmps_14 rfl rfl))) (jOK_node (jOK_leaf (sn_callV (Y' := Y_X3_ampsOf) ok_X3_ampsOf dX3_allAmps_15 rfl rfl rfl tw_496 tw_291 tw_292 tw_3 jc_X3_ampsOf rfl ⟨by decide, by decide, rfl⟩ ⟨by decide, by decide⟩)) (jOK_leaf (sn_iadd dX3_allAmps_18 rfl)))) (jOK_node (jOK_node (jOK_leaf (sn_istore_n dX3_allAmps_19 rfl rfl (by decide))) (jOK_leaf (sn_iinc dX3_allAmps_20 rfl rfl (by decide)))) (jOK_node (jOK_leaf (sn_goto dX3_allAmps_23 rfl)) (jOK_node (jOK_leaf (sn_iload_n dX3_allAmps_26 rfl rfl)) (jOK_leaf (sn_ireturn dX3_allAmps_27 rfl rfl))))))
def F_X3_allAmps_0_27 : Nat → jT := fun pc => bif Nat.blt pc 13 then F_X3_allAmps_0 pc else F_X3_allAmps_13 pc
theorem F_X3_allAmps_0_27_l {pc : Nat} (h : Nat.blt pc 13 = true) : F_X3_allAmps_0_27 pc = F_X3_allAmps_0 pc := by unfold F_X3_allAmps_0_27; rw [h]; rfl
theorem F_X3_allAmps_0_27_r {pc : Nat} (h : Nat.blt pc 13 = false) : F_X3_allAmps_0_27 pc = F_X3_allAmps_13 pc := by unfold F_X3_allAmps_0_27; rw [h]; rfl
theorem F_X3_allAmps_0_27_ok : jOK Y_X3_allAmps none (F_X3_allAmps_0_27) := jOK_node (F_X3_allAmps_0_ok) (F_X3_allAmps_13_ok)
def F_X3_allAmps : Nat → jT := F_X3_allAmps_0_27
theorem OK_X3_allAmps : jOK Y_X3_allAmps none (F_X3_allAmps) := F_X3_allAmps_0_27_ok
theorem ft_X3_allAmps_0 : F_X3_allAmps 0 = J_iconst 0 1 := (F_X3_allAmps_0_27_l rfl).trans (ftl_X3_allAmps_0)
theorem ft_X3_allAmps_1 : F_X3_allAmps 1 = J_istore 1 2 := (F_X3_allAmps_0_27_l rfl).trans (ftl_X3_allAmps_1)
theorem ft_X3_allAmps_2 : F_X3_allAmps 2 = J_iconst 0 3 := (F_X3_allAmps_0_27_l rfl).trans (ftl_X3_allAmps_2)
theorem ft_X3_allAmps_3 : F_X3_allAmps 3 = J_istore 2 4 := (F_X3_allAmps_0_27_l rfl).trans (ftl_X3_allAmps_3)
theorem ft_X3_allAmps_4 : F_X3_allAmps 4 = J_iload 2 5 := (F_X3_allAmps_0_27_l rfl).trans (ftl_X3_allAmps_4)
theorem ft_X3_allAmps_5 : F_X3_allAmps 5 = J_aload 0 6 := (F_X3_allAmps_0_27_l rfl).trans (ftl_X3_allAmps_5)
theorem ft_X3_allAmps_6 : F_X3_allAmps 6 = J_getfield 3 2 9 := (F_X3_allAmps_0_27_l rfl).trans (ftl_X3_allAmps_6)
theorem ft_X3_allAmps_9 : F_X3_allAmps 9 = J_icge 26 12 := (F_X3_allAmps_0_27_l rfl).trans (ftl_X3_allAmps_9)
theorem ft_X3_allAmps_12 : F_X3_allAmps 12 = J_iload 1 13 := (F_X3_allAmps_0_27_l rfl).trans (ftl_X3_allAmps_12)
theorem ft_X3_allAmps_13 : F_X3_allAmps 13 = J_aload 0 14 := (F_X3_allAmps_0_27_r rfl).trans (ftl_X3_allAmps_13)
theorem ft_X3_allAmps_14 : F_X3_allAmps 14 = J_iload 2 15 := (F_X3_allAmps_0_27_r rfl).trans (ftl_X3_allAmps_14)
theorem ft_X3_allAmps_15 : F_X3_allAmps 15 = J_callV 3 S_X3_ampsOf 1 18 := (F_X3_allAmps_0_27_r rfl).trans (ftl_X3_allAmps_15)
theorem ft_X3_allAmps_18 : F_X3_allAmps 18 = J_iadd 19 := (F_X3_allAmps_0_27_r rfl).trans (ftl_X3_allAmps_18)
theorem ft_X3_allAmps_19 : F_X3_allAmps 19 = J_istore 1 20 := (F_X3_allAmps_0_27_r rfl).trans (ftl_X3_allAmps_19)
theorem ft_X3_allAmps_20 : F_X3_allAmps 20 = J_iinc 2 1 23 := (F_X3_allAmps_0_27_r rfl).trans (ftl_X3_allAmps_20)
theorem ft_X3_allAmps_23 : F_X3_allAmps 23 = J_goto 4 := (F_X3_allAmps_0_27_r rfl).trans (ftl_X3_allAmps_23)
theorem ft_X3_allAmps_26 : F_X3_allAmps 26 = J_iload 1 27 := (F_X3_allAmps_0_27_r rfl).trans (ftl_X3_allAmps_26)
theorem ft_X3_allAmps_27 : F_X3_allAmps 27 = J_ireturn 0 0 := (F_X3_allAmps_0_27_r rfl).trans (ftl_X3_allAmps_27)
theorem lp_X3_allAmps {Q : jQ} {C : Nat → Nat → Int32} {z : Nat → Int64} {nb P : Nat} (hP : C 3 2 = nI P) (h4 : P ≤ 4) (h : Q (some (.int (ampS (C 4) P))) (memS 94 C z)) :
    ∀ k j, j + k = P → Rn Y_X3_allAmps none Q 4 [some (.ref 3), some (.int (ampS (C 4) j)), some (.int (nI j))] [] (memS 94 C z) (nb, 0, 0) := by
  intro k
  induction k with
  | zero =>
    intro j hj
    have hc : (nI P ≤ nI j) = True := eq_true (nI_le (by omega) (by omega))
    refine jrun_first OK_X3_allAmps (C := [4]) 60 ?_
    simp -implicitDefEqProofs only [jr_0, jr_1, jr_2, j_iconst, j_lconst, j_iload0, j_aload0, j_istore0, j_astore0, j_iinc0, j_iload1, j_aload1, j_istore1, j_astore1, j_iinc1, j_iload2, j_aload2, j_istore2, j_astore2, j_iinc2, j_iload3, j_aload3, j_istore3, j_astore3, j_iinc3, j_iload4, j_aload4, j_istore4, j_astore4, j_iinc4, j_iload5, j_aload5, j_istore5, j_astore5, j_iinc5, j_iload6, j_aload6, j_istore6, j_astore6, j_iinc6, j_iload7, j_aload7, j_istore7, j_astore7, j_iinc7, j_iload8, j_aload8, j_istore8, j_astore8, j_iinc8, j_iadd, j_isub, j_imul, j_iand, j_ior, j_ixor, j_ishl, j_ishr, j_iushr, j_idiv, j_irem, j_ineg, j_ladd, j_lmul, j_land, j_lor, j_lcmp, j_lushr, j_lshl, j_i2l, j_l2i, j_dupI, j_dupR, j_popI, j_dup2, j_ifeq, j_iceq, j_ifne, j_icne, j_iflt, j_iclt, j_ifge, j_icge, j_ifgt, j_icgt, j_ifle, j_icle, j_goto, j_tsw, j_sw0, j_sw1, j_ireturn, j_zreturn, j_lreturn, j_return, j_getfield, j_putI, j_putJ, j_putR, j_iaload, j_baload, j_iastore, j_bastore, j_aaload, j_q, j_aastore, j_acopy, j_mmin, j_mmax, j_mabs, j_objinit, j_new, j_newI, j_newQ, j_sld, j_slen, j_callV0, j_callI0, j_callS0, j_callV1, j_callI1, j_callS1, j_callV2, j_callI2, j_callS2, j_callV3, j_callS3, j_callV4, j_callS4, j_callV5, j_callS5, j_pushS, j_pushN, j_sh0, j_sh1, j_sh2, j_sh3, j_sh4, Int32.reduceAdd, Int32.reduceMul, Int32.reduceSub, Int32.reduceLT, Int32.reduceLE, eq_self, i32_10, i32_01, ne_eq, hrow_s, hrow_n, ne10, ne100, ne1000, ne7, ne4, ne14, ne9973, or_true, true_or, or_false, false_or, not_true_eq_false, not_false_eq_true, false_implies, implies_true, and_true, forall_const, true_implies, jargs_n, jargs_r, jargs_i, List.cons_append, List.nil_append, true_and, Nat.reduceEqDiff, reduceIte, ft_X3_allAmps_0, ft_X3_allAmps_1, ft_X3_allAmps_2, ft_X3_allAmps_3, ft_X3_allAmps_4, ft_X3_allAmps_5, ft_X3_allAmps_6, ft_X3_allAmps_9, ft_X3_allAmps_12, ft_X3_allAmps_13, ft_X3_allAmps_14, ft_X3_allAmps_15, ft_X3_allAmps_18, ft_X3_allAmps_19, ft_X3_allAmps_20, ft_X3_allAmps_23, ft_X3_allAmps_26, ft_X3_allAmps_27, fl_3_2, hP, hc]
    rw [show j = P by omega]
    exact h
  | succ k ih =>
    intro j hj
    have hc : (nI P ≤ nI j) = False := eq_false (nI_ge (by omega) (by omega))
    refine jrun_first OK_X3_allAmps (C := [4]) 60 ?_
    simp -implicitDefEqProofs only [jr_0, jr_1, jr_2, j_iconst, j_lconst, j_iload0, j_aload0, j_istore0, j_astore0, j_iinc0, j_iload1, j_aload1, j_istore1, j_astore1, j_iinc1, j_iload2, j_aload2, j_istore2, j_astore2, j_iinc2, j_iload3, j_aload3, j_istore3, j_astore3, j_iinc3, j_iload4, j_aload4, j_istore4, j_astore4, j_iinc4, j_iload5, j_aload5, j_istore5, j_astore5, j_iinc5, j_iload6, j_aload6, j_istore6, j_astore6, j_iinc6, j_iload7, j_aload7, j_istore7, j_astore7, j_iinc7, j_iload8, j_aload8, j_istore8, j_astore8, j_iinc8, j_iadd, j_isub, j_imul, j_iand, j_ior, j_ixor, j_ishl, j_ishr, j_iushr, j_idiv, j_irem, j_ineg, j_ladd, j_lmul, j_land, j_lor, j_lcmp, j_lushr, j_lshl, j_i2l, j_l2i, j_dupI, j_dupR, j_popI, j_dup2, j_ifeq, j_iceq, j_ifne, j_icne, j_iflt, j_iclt, j_ifge, j_icge, j_ifgt, j_icgt, j_ifle, j_icle, j_goto, j_tsw, j_sw0, j_sw1, j_ireturn, j_zreturn, j_lreturn, j_return, j_getfield, j_putI, j_putJ, j_putR, j_iaload, j_baload, j_iastore, j_bastore, j_aaload, j_q, j_aastore, j_acopy, j_mmin, j_mmax, j_mabs, j_objinit, j_new, j_newI, j_newQ, j_sld, j_slen, j_callV0, j_callI0, j_callS0, j_callV1, j_callI1, j_callS1, j_callV2, j_callI2, j_callS2, j_callV3, j_callS3, j_callV4, j_callS4, j_callV5, j_callS5, j_pushS, j_pushN, j_sh0, j_sh1, j_sh2, j_sh3, j_sh4, Int32.reduceAdd, Int32.reduceMul, Int32.reduceSub, Int32.reduceLT, Int32.reduceLE, eq_self, i32_10, i32_01, ne_eq, hrow_s, hrow_n, ne10, ne100, ne1000, ne7, ne4, ne14, ne9973, or_true, true_or, or_false, false_or, not_true_eq_false, not_false_eq_true, false_implies, implies_true, and_true, forall_const, true_implies, jargs_n, jargs_r, jargs_i, List.cons_append, List.nil_append, true_and, Nat.reduceEqDiff, reduceIte, ft_X3_allAmps_0, ft_X3_allAmps_1, ft_X3_allAmps_2, ft_X3_allAmps_3, ft_X3_allAmps_4, ft_X3_allAmps_5, ft_X3_allAmps_6, ft_X3_allAmps_9, ft_X3_allAmps_12, ft_X3_allAmps_13, ft_X3_allAmps_14, ft_X3_allAmps_15, ft_X3_allAmps_18, ft_X3_allAmps_19, ft_X3_allAmps_20, ft_X3_allAmps_23, ft_X3_allAmps_26, ft_X3_allAmps_27, fl_3_2, rc_3, hP, hc, s_X3_ampsOf jD94, nI_1]
    exact ih (j + 1) (by omega)
theorem ok_X3_allAmps : jMeets Y_X3_allAmps S_X3_allAmps := by
  intro nb vs mem Q h
  obtain ⟨C, z, P, rfl, rfl, hP, h4, hQ⟩ := h
  refine Ok.run OK_X3_allAmps [4] 60 [none, none] pn3 (Nat.le_of_ble_eq_true rfl) rfl ?_
  simp -implicitDefEqProofs only [jr_0, jr_1, jr_2, j_iconst, j_lconst, j_iload0, j_aload0, j_istore0, j_astore0, j_iinc0, j_iload1, j_aload1, j_istore1, j_astore1, j_iinc1, j_iload2, j_aload2, j_istore2, j_astore2, j_iinc2, j_iload3, j_aload3, j_istore3, j_astore3, j_iinc3, j_iload4, j_aload4, j_istore4, j_astore4, j_iinc4, j_iload5, j_aload5, j_istore5, j_astore5, j_iinc5, j_iload6, j_aload6, j_istore6, j_astore6, j_iinc6, j_iload7, j_aload7, j_istore7, j_astore7, j_iinc7, j_iload8, j_aload8, j_istore8, j_astore8, j_iinc8, j_iadd, j_isub, j_imul, j_iand, j_ior, j_ixor, j_ishl, j_ishr, j_iushr, j_idiv, j_irem, j_ineg, j_ladd, j_lmul, j_land, j_lor, j_lcmp, j_lushr, j_lshl, j_i2l, j_l2i, j_dupI, j_dupR, j_popI, j_dup2, j_ifeq, j_iceq, j_ifne, j_icne, j_iflt, j_iclt, j_ifge, j_icge, j_ifgt, j_icgt, j_ifle, j_icle, j_goto, j_tsw, j_sw0, j_sw1, j_ireturn, j_zreturn, j_lreturn, j_return, j_getfield, j_putI, j_putJ, j_putR, j_iaload, j_baload, j_iastore, j_bastore, j_aaload, j_q, j_aastore, j_acopy, j_mmin, j_mmax, j_mabs, j_objinit, j_new, j_newI, j_newQ, j_sld, j_slen, j_callV0, j_callI0, j_callS0, j_callV1, j_callI1, j_callS1, j_callV2, j_callI2, j_callS2, j_callV3, j_callS3, j_callV4, j_callS4, j_callV5, j_callS5, j_pushS, j_pushN, j_sh0, j_sh1, j_sh2, j_sh3, j_sh4, Int32.reduceAdd, Int32.reduceMul, Int32.reduceSub, Int32.reduceLT, Int32.reduceLE, eq_self, i32_10, i32_01, ne_eq, hrow_s, hrow_n, ne10, ne100, ne1000, ne7, ne4, ne14, ne9973, or_true, true_or, or_false, false_or, not_true_eq_false, not_false_eq_true, false_implies, implies_true, and_true, forall_const, true_implies, jargs_n, jargs_r, jargs_i, List.cons_append, List.nil_append, true_and, Nat.reduceEqDiff, reduceIte, ft_X3_allAmps_0, ft_X3_allAmps_1, ft_X3_allAmps_2, ft_X3_allAmps_3, ft_X3_allAmps_4, ft_X3_allAmps_5, ft_X3_allAmps_6, ft_X3_allAmps_9, ft_X3_allAmps_12, ft_X3_allAmps_13, ft_X3_allAmps_14, ft_X3_allAmps_15, ft_X3_allAmps_18, ft_X3_allAmps_19, ft_X3_allAmps_20, ft_X3_allAmps_23, ft_X3_allAmps_26, ft_X3_allAmps_27]
  exact lp_X3_allAmps hP h4 hQ P 0 (by omega)
theorem s_X3_allAmps {nb P : Nat} {C : Nat → Nat → Int32} {z : Nat → Int64} {Q : jQ} (hP : C 3 2 = nI P) (h4 : P ≤ 4) (hQ : Q (some (.int (ampS (C 4) P))) (memS 94 C z)) : S_X3_allAmps nb [.ref 3] (memS 94 C z) Q := ⟨C, z, P, rfl, rfl, hP, h4, hQ⟩
def chgP (ρ : Nat → Int32) : Prop := rrest ρ (ρ 0) ≤ 0 ∧ rrest ρ (ρ 1) ≤ 0 ∧ rrest ρ (ρ 2) ≤ 0 ∧ rrest ρ (ρ 3) ≤ 0
theorem s_chg {nb d s : Nat} {C : Nat → Nat → Int32} {z : Nat → Int64} {Q : jQ} (h : jSt s d) : S_X4_allCharged nb [.ref s] (memS d C z) Q = Q (some (.int (zb (chgP (C s))))) (memS d C z) := s_X4_allCharged h
noncomputable def lstF (C : Nat → Nat → Int32) (n : Nat) : Nat → Nat → Int32
  | 0, _ => -9
  | k + 1, v => pick (chgP (goF C 0 15 (-1) n (upd (C 9) 38 (nI v)))) (nI v) (lstF C n k (v + 1))
noncomputable def leastA (C : Nat → Nat → Int32) (n : Int32) (E : Nat) : Int32 := pick (0 ≤ n ∧ n ≤ 40) (lstF C n.toNatClampNeg (E + 1) 0) (-2)
def S_X6_least : jSp := fun _ vs mem Q => ∃ C z P E, ∃ n : Int32, vs = [.ref 0, .int n] ∧ mem = memS 94 C z ∧ RC C P ∧ ampS (C 4) P = nI E ∧ E < 1000 ∧ ∀ C', Hv C C' → Q (some (.int (leastA C n E))) (memS 94 C' z)
def F_X6_least_0 : Nat → jT := fun pc => (bif Nat.blt pc 10 then (bif Nat.blt pc 4 then (bif Nat.blt pc 1 then (bif Nat.beq pc 0 then J_iload 1 1 else jbad) else (bif Nat.beq pc 1 then J_iflt 10 4 else jbad)) else (bif Nat.blt pc 5 then (bif Nat.beq pc 4 then J_iload 1 5 else jbad) else (bif Nat.blt pc 7 then (bif Nat.beq pc 5 then J_iconst 40 7 else jbad) else (bif Nat.beq pc 7 then J_icle 13 10 else jbad)))) else (bif Nat.blt pc 14 then (bif Nat.blt pc 12 then (bif Nat.beq pc 10 then J_iconst (-2) 12 else jbad) else (bif Nat.blt pc 13 then (bif Nat.beq pc 12 then J_ireturn 0 0 else jbad) else (bif Nat.beq pc 13 then J_aload 0 14 else jbad))) else (bif Nat.blt pc 17 then (bif Nat.beq pc 14 then J_getfield 6 1 17 else jbad) else (bif Nat.blt pc 20 then (bif Nat.beq pc 17 then J_callV 3 S_X3_allAmps 0 20 else jbad) else (bif Nat.beq pc 20 then J_istore 2 21 else jbad)))))
theorem ftl_X6_least_0 : F_X6_least_0 0 = J_iload 1 1 := rfl
theorem ftl_X6_least_1 : F_X6_least_0 1 = J_iflt 10 4 := rfl
theorem ftl_X6_least_4 : F_X6_least_0 4 = J_iload 1 5 := rfl
theorem ftl_X6_least_5 : F_X6_least_0 5 = J_iconst 40 7 := rfl
theorem ftl_X6_least_7 : F_X6_least_0 7 = J_icle 13 10 := rfl
theorem ftl_X6_least_10 : F_X6_least_0 10 = J_iconst (-2) 12 := rfl
theorem ftl_X6_least_12 : F_X6_least_0 12 = J_ireturn 0 0 := rfl
theorem ftl_X6_least_13 : F_X6_least_0 13 = J_aload 0 14 := rfl
theorem ftl_X6_least_14 : F_X6_least_0 14 = J_getfield 6 1 17 := rfl
theorem ftl_X6_least_17 : F_X6_least_0 17 = J_callV 3 S_X3_allAmps 0 20 := rfl
theorem ftl_X6_least_20 : F_X6_least_0 20 = J_istore 2 21 := rfl
theorem F_X6_least_0_ok : jOK Y_X6_least none (F_X6_least_0) := (jOK_node (jOK_node (jOK_node (jOK_leaf (sn_iload_n dX6_least_0 rfl rfl)) (jOK_leaf (sn_iflt dX6_least_1 rfl rfl))) (jOK_node (jOK_leaf (sn_iload_n dX6_least_4 rfl rfl)) (jOK_node (jOK_leaf (sn_bipush dX6_least_5 rfl rfl)) (jOK_leaf (sn_icle dX6_least_7 rfl rfl))))) (jOK_node (jOK_node (jOK_leaf (sn_bipush dX6_least_10 rfl rfl)) (jOK_node (jOK_leaf (sn_ireturn dX6_least_12 rfl rfl)) (jOK_leaf (sn_aload_n dX6_least_13 rfl rfl)))) (jOK_node (jOK_leaf (sn_getfield dX6_least_14 rfl rfl (by decide) tw_167 jin6)) (jOK_node (jOK_leaf (sn_callV (Y' := Y_X3_allAmps) ok_X3_allAmps dX6_least_17 rfl rfl rfl tw_492 tw_493 tw_494 tw_3 jc_X3_allAmps rfl ⟨by decide, by decide, rfl⟩ ⟨by decide, by decide⟩)) (jOK_leaf (sn_istore_n dX6_least_20 rfl rfl (by decide)))))))
def F_X6_least_21 : Nat → jT := fun pc => (bif Nat.blt pc 28 then (bif Nat.blt pc 23 then (bif Nat.blt pc 22 then (bif Nat.beq pc 21 then J_iconst 0 22 else jbad) else (bif Nat.beq pc 22 then J_istore 3 23 else jbad)) else (bif Nat.blt pc 24 then (bif Nat.beq pc 23 then J_iload 3 24 else jbad) else (bif Nat.blt pc 25 then (bif Nat.beq pc 24 then J_iload 2 25 else jbad) else (bif Nat.beq pc 25 then J_icgt 81 28 else jbad)))) else (bif Nat.blt pc 33 then (bif Nat.blt pc 29 then (bif Nat.beq pc 28 then J_aload 0 29 else jbad) else (bif Nat.blt pc 32 then (bif Nat.beq pc 29 then J_getfield 6 4 32 else jbad) else (bif Nat.beq pc 32 then J_aload 0 33 else jbad))) else (bif Nat.blt pc 36 then (bif Nat.beq pc 33 then J_getfield 6 3 36 else jbad) else (bif Nat.blt pc 39 then (bif Nat.beq pc 36 then J_callV 4 S_X4_take 1 39 else jbad) else (bif Nat.beq pc 39 then J_aload 0 40 else jbad)))))
theorem ftl_X6_least_21 : F_X6_least_21 21 = J_iconst 0 22 := rfl
theorem ftl_X6_least_22 : F_X6_least_21 22 = J_istore 3 23 := rfl
theorem ftl_X6_least_23 : F_X6_least_21 23 = J_iload 3 24 := rfl
theorem ftl_X6_least_24 : F_X6_least_21 24 = J_iload 2 25 := rfl
theorem ftl_X6_least_25 : F_X6_least_21 25 = J_icgt 81 28 := rfl
theorem ftl_X6_least_28 : F_X6_least_21 28 = J_aload 0 29 := rfl
theorem ftl_X6_least_29 : F_X6_least_21 29 = J_getfield 6 4 32 := rfl
theorem ftl_X6_least_32 : F_X6_least_21 32 = J_aload 0 33 := rfl
theorem ftl_X6_least_33 : F_X6_least_21 33 = J_getfield 6 3 36 := rfl
theorem ftl_X6_least_36 : F_X6_least_21 36 = J_callV 4 S_X4_take 1 39 := rfl
theorem ftl_X6_least_39 : F_X6_least_21 39 = J_aload 0 40 := rfl
theorem F_X6_least_21_ok : jOK Y_X6_least none (F_X6_least_21) := (jOK_node (jOK_node (jOK_node (jOK_leaf (sn_iconst dX6_least_21 rfl rfl)) (jOK_leaf (sn_istore_n dX6_least_22 rfl rfl (by decide)))) (jOK_node (jOK_leaf (sn_iload_n dX6_least_23 rfl rfl)) (jOK_node (jOK_leaf (sn_iload_n dX6_least_24 rfl rfl)) (jOK_leaf (sn_icgt dX6_least_25 rfl rfl))))) (jOK_node (jOK_node (jOK_leaf (sn_aload_n dX6_least_28 rfl rfl)) (jOK_node (jOK_leaf (sn_getfield dX6_least_29 rfl rfl (by decide) tw_170 jin6)) (jOK_leaf (sn_aload_n dX6_least_32 rfl rfl)))) (jOK_node (jOK_leaf (sn_getfield dX6_least_33 rfl rfl (by decide) tw_169 jin6)) (jOK_node (jOK_leaf (sn_callV (Y' := Y_X4_take) ok_X4_take dX6_least_36 rfl rfl rfl tw_331 tw_332 tw_333 tw_5 jc_X4_take rfl ⟨by decide, by decide, rfl⟩ ⟨by decide, by decide⟩)) (jOK_leaf (sn_aload_n dX6_least_39 rfl rfl))))))
def F_X6_least_0_39 : Nat → jT := fun pc => bif Nat.blt pc 21 then F_X6_least_0 pc else F_X6_least_21 pc
theorem F_X6_least_0_39_l {pc : Nat} (h : Nat.blt pc 21 = true) : F_X6_least_0_39 pc = F_X6_least_0 pc := by unfold F_X6_least_0_39; rw [h]; rfl
theorem F_X6_least_0_39_r {pc : Nat} (h : Nat.blt pc 21 = false) : F_X6_least_0_39 pc = F_X6_least_21 pc := by unfold F_X6_least_0_39; rw [h]; rfl
theorem F_X6_least_0_39_ok : jOK Y_X6_least none (F_X6_least_0_39) := jOK_node (F_X6_least_0_ok) (F_X6_least_21_ok)
def F_X6_least_40 : Nat → jT := fun pc => (bif Nat.blt pc 51 then (bif Nat.blt pc 44 then (bif Nat.blt pc 43 then (bif Nat.beq pc 40 then J_getfield 6 4 43 else jbad) else (bif Nat.beq pc 43 then J_iload 3 44 else jbad)) else (bif Nat.blt pc 47 then (bif Nat.beq pc 44 then J_putI 4 2 47 else jbad) else (bif Nat.blt pc 48 then (bif Nat.beq pc 47 then J_aload 0 48 else jbad) else (bif Nat.beq pc 48 then J_getfield 6 2 51 else jbad)))) else (bif Nat.blt pc 56 then (bif Nat.blt pc 52 then (bif Nat.beq pc 51 then J_aload 0 52 else jbad) else (bif Nat.blt pc 55 then (bif Nat.beq pc 52 then J_getfield 6 4 55 else jbad) else (bif Nat.beq pc 55 then J_iload 1 56 else jbad))) else (bif Nat.blt pc 57 then (bif Nat.beq pc 56 then J_iconst 0 57 else jbad) else (bif Nat.blt pc 59 then (bif Nat.beq pc 57 then J_iconst 15 59 else jbad) else (bif Nat.beq pc 59 then J_iconst (-1) 60 else jbad)))))
theorem ftl_X6_least_40 : F_X6_least_40 40 = J_getfield 6 4 43 := rfl
theorem ftl_X6_least_43 : F_X6_least_40 43 = J_iload 3 44 := rfl
theorem ftl_X6_least_44 : F_X6_least_40 44 = J_putI 4 2 47 := rfl
theorem ftl_X6_least_47 : F_X6_least_40 47 = J_aload 0 48 := rfl
theorem ftl_X6_least_48 : F_X6_least_40 48 = J_getfield 6 2 51 := rfl
theorem ftl_X6_least_51 : F_X6_least_40 51 = J_aload 0 52 := rfl
theorem ftl_X6_least_52 : F_X6_least_40 52 = J_getfield 6 4 55 := rfl
theorem ftl_X6_least_55 : F_X6_least_40 55 = J_iload 1 56 := rfl
theorem ftl_X6_least_56 : F_X6_least_40 56 = J_iconst 0 57 := rfl
theorem ftl_X6_least_57 : F_X6_least_40 57 = J_iconst 15 59 := rfl
theorem ftl_X6_least_59 : F_X6_least_40 59 = J_iconst (-1) 60 := rfl
theorem F_X6_least_40_ok : jOK Y_X6_least none (F_X6_least_40) := (jOK_node (jOK_node (jOK_node (jOK_leaf (sn_getfield dX6_least_40 rfl rfl (by decide) tw_170 jin6)) (jOK_leaf (sn_iload_n dX6_least_43 rfl rfl))) (jOK_node (jOK_leaf (sn_putI tyX4 dX6_least_44 rfl rfl (by decide) tw_92 jin4 tyX4_ok nmX4 rfl rfl)) (jOK_node (jOK_leaf (sn_aload_n dX6_least_47 rfl rfl)) (jOK_leaf (sn_getfield dX6_least_48 rfl rfl (by decide) tw_168 jin6))))) (jOK_node (jOK_node (jOK_leaf (sn_aload_n dX6_least_51 rfl rfl)) (jOK_node (jOK_leaf (sn_getfield dX6_least_52 rfl rfl (by decide) tw_170 jin6)) (jOK_leaf (sn_iload_n dX6_least_55 rfl rfl)))) (jOK_node (jOK_leaf (sn_iconst dX6_least_56 rfl rfl)) (jOK_node (jOK_leaf (sn_bipush dX6_least_57 rfl rfl)) (jOK_leaf (sn_iconst dX6_least_59 rfl rfl))))))
def F_X6_least_60 : Nat → jT := fun pc => (bif Nat.blt pc 73 then (bif Nat.blt pc 64 then (bif Nat.blt pc 63 then (bif Nat.beq pc 60 then J_callV 0 S_X0_pass 5 63 else jbad) else (bif Nat.beq pc 63 then J_aload 0 64 else jbad)) else (bif Nat.blt pc 67 then (bif Nat.beq pc 64 then J_getfield 6 4 67 else jbad) else (bif Nat.blt pc 70 then (bif Nat.beq pc 67 then J_callV 4 S_X4_allCharged 0 70 else jbad) else (bif Nat.beq pc 70 then J_ifeq 75 73 else jbad)))) else (bif Nat.blt pc 78 then (bif Nat.blt pc 74 then (bif Nat.beq pc 73 then J_iload 3 74 else jbad) else (bif Nat.blt pc 75 then (bif Nat.beq pc 74 then J_ireturn 0 0 else jbad) else (bif Nat.beq pc 75 then J_iinc 3 1 78 else jbad))) else (bif Nat.blt pc 81 then (bif Nat.beq pc 78 then J_goto 23 else jbad) else (bif Nat.blt pc 83 then (bif Nat.beq pc 81 then J_iconst (-9) 83 else jbad) else (bif Nat.beq pc 83 then J_ireturn 0 0 else jbad)))))
theorem ftl_X6_least_60 : F_X6_least_60 60 = J_callV 0 S_X0_pass 5 63 := rfl
theorem ftl_X6_least_63 : F_X6_least_60 63 = J_aload 0 64 := rfl
theorem ftl_X6_least_64 : F_X6_least_60 64 = J_getfield 6 4 67 := rfl
theorem ftl_X6_least_67 : F_X6_least_60 67 = J_callV 4 S_X4_allCharged 0 70 := rfl
theorem ftl_X6_least_70 : F_X6_least_60 70 = J_ifeq 75 73 := rfl
theorem ftl_X6_least_73 : F_X6_least_60 73 = J_iload 3 74 := rfl
theorem ftl_X6_least_74 : F_X6_least_60 74 = J_ireturn 0 0 := rfl
theorem ftl_X6_least_75 : F_X6_least_60 75 = J_iinc 3 1 78 := rfl
theorem ftl_X6_least_78 : F_X6_least_60 78 = J_goto 23 := rfl
theorem ftl_X6_least_81 : F_X6_least_60 81 = J_iconst (-9) 83 := rfl
theorem ftl_X6_least_83 : F_X6_least_60 83 = J_ireturn 0 0 := rfl
theorem F_X6_least_60_ok : jOK Y_X6_least none (F_X6_least_60) := (jOK_node (jOK_node (jOK_node (jOK_leaf (sn_callV (Y' := Y_X0_pass) ok_X0_pass dX6_least_60 rfl rfl rfl tw_483 tw_343 tw_344 tw_4 jc_X0_pass rfl ⟨by decide, by decide, rfl⟩ ⟨by decide, by decide⟩)) (jOK_leaf (sn_aload_n dX6_least_63 rfl rfl))) (jOK_node (jOK_leaf (sn_getfield dX6_least_64 rfl rfl (by decide) tw_170 jin6)) (jOK_node (jOK_leaf (sn_callV (Y' := Y_X4_allCharged) ok_X4_allCharged dX6_least_67 rfl rfl rfl tw_497 tw_498 tw_499 tw_5 jc_X4_allCharged rfl ⟨by decide, by decide, rfl⟩ ⟨by decide, by decide⟩)) (jOK_leaf (sn_ifeq dX6_least_70 rfl rfl))))) (jOK_node (jOK_node (jOK_leaf (sn_iload_n dX6_least_73 rfl rfl)) (jOK_node (jOK_leaf (sn_ireturn dX6_least_74 rfl rfl)) (jOK_leaf (sn_iinc dX6_least_75 rfl rfl (by decide))))) (jOK_node (jOK_leaf (sn_goto dX6_least_78 rfl)) (jOK_node (jOK_leaf (sn_bipush dX6_least_81 rfl rfl)) (jOK_leaf (sn_ireturn dX6_least_83 rfl rfl))))))
def F_X6_least_40_83 : Nat → jT := fun pc => bif Nat.blt pc 60 then F_X6_least_40 pc else F_X6_least_60 pc
theorem F_X6_least_40_83_l {pc : Nat} (h : Nat.blt pc 60 = true) : F_X6_least_40_83 pc = F_X6_least_40 pc := by unfold F_X6_least_40_83; rw [h]; rfl
theorem F_X6_least_40_83_r {pc : Nat} (h : Nat.blt pc 60 = false) : F_X6_least_40_83 pc = F_X6_least_60 pc := by unfold F_X6_least_40_83; rw [h]; rfl
theorem F_X6_least_40_83_ok : jOK Y_X6_least none (F_X6_least_40_83) := jOK_node (F_X6_least_40_ok) (F_X6_least_60_ok)
def F_X6_least_0_83 : Nat → jT := fun pc => bif Nat.blt pc 40 then F_X6_least_0_39 pc else F_X6_least_40_83 pc
theorem F_X6_least_0_83_l {pc : Nat} (h : Nat.blt pc 40 = true) : F_X6_least_0_83 pc = F_X6_least_0_39 pc := by unfold F_X6_least_0_83; rw [h]; rfl
theorem F_X6_least_0_83_r {pc : Nat} (h : Nat.blt pc 40 = false) : F_X6_least_0_83 pc = F_X6_least_40_83 pc := by unfold F_X6_least_0_83; rw [h]; rfl
theorem F_X6_least_0_83_ok : jOK Y_X6_least none (F_X6_least_0_83) := jOK_node (F_X6_least_0_39_ok) (F_X6_least_40_83_ok)
def F_X6_least : Nat → jT := F_X6_least_0_83
theorem OK_X6_least : jOK Y_X6_least none (F_X6_least) := F_X6_least_0_83_ok
theorem ft_X6_least_0 : F_X6_least 0 = J_iload 1 1 := (F_X6_least_0_83_l rfl).trans ((F_X6_least_0_39_l rfl).trans (ftl_X6_least_0))
theorem ft_X6_least_1 : F_X6_least 1 = J_iflt 10 4 := (F_X6_least_0_83_l rfl).trans ((F_X6_least_0_39_l rfl).trans (ftl_X6_least_1))
theorem ft_X6_least_4 : F_X6_least 4 = J_iload 1 5 := (F_X6_least_0_83_l rfl).trans ((F_X6_least_0_39_l rfl).trans (ftl_X6_least_4))
theorem ft_X6_least_5 : F_X6_least 5 = J_iconst 40 7 := (F_X6_least_0_83_l rfl).trans ((F_X6_least_0_39_l rfl).trans (ftl_X6_least_5))
theorem ft_X6_least_7 : F_X6_least 7 = J_icle 13 10 := (F_X6_least_0_83_l rfl).trans ((F_X6_least_0_39_l rfl).trans (ftl_X6_least_7))
theorem ft_X6_least_10 : F_X6_least 10 = J_iconst (-2) 12 := (F_X6_least_0_83_l rfl).trans ((F_X6_least_0_39_l rfl).trans (ftl_X6_least_10))
theorem ft_X6_least_12 : F_X6_least 12 = J_ireturn 0 0 := (F_X6_least_0_83_l rfl).trans ((F_X6_least_0_39_l rfl).trans (ftl_X6_least_12))
theorem ft_X6_least_13 : F_X6_least 13 = J_aload 0 14 := (F_X6_least_0_83_l rfl).trans ((F_X6_least_0_39_l rfl).trans (ftl_X6_least_13))
theorem ft_X6_least_14 : F_X6_least 14 = J_getfield 6 1 17 := (F_X6_least_0_83_l rfl).trans ((F_X6_least_0_39_l rfl).trans (ftl_X6_least_14))
theorem ft_X6_least_17 : F_X6_least 17 = J_callV 3 S_X3_allAmps 0 20 := (F_X6_least_0_83_l rfl).trans ((F_X6_least_0_39_l rfl).trans (ftl_X6_least_17))
theorem ft_X6_least_20 : F_X6_least 20 = J_istore 2 21 := (F_X6_least_0_83_l rfl).trans ((F_X6_least_0_39_l rfl).trans (ftl_X6_least_20))
theorem ft_X6_least_21 : F_X6_least 21 = J_iconst 0 22 := (F_X6_least_0_83_l rfl).trans ((F_X6_least_0_39_r rfl).trans (ftl_X6_least_21))
theorem ft_X6_least_22 : F_X6_least 22 = J_istore 3 23 := (F_X6_least_0_83_l rfl).trans ((F_X6_least_0_39_r rfl).trans (ftl_X6_least_22))
theorem ft_X6_least_23 : F_X6_least 23 = J_iload 3 24 := (F_X6_least_0_83_l rfl).trans ((F_X6_least_0_39_r rfl).trans (ftl_X6_least_23))
theorem ft_X6_least_24 : F_X6_least 24 = J_iload 2 25 := (F_X6_least_0_83_l rfl).trans ((F_X6_least_0_39_r rfl).trans (ftl_X6_least_24))
theorem ft_X6_least_25 : F_X6_least 25 = J_icgt 81 28 := (F_X6_least_0_83_l rfl).trans ((F_X6_least_0_39_r rfl).trans (ftl_X6_least_25))
theorem ft_X6_least_28 : F_X6_least 28 = J_aload 0 29 := (F_X6_least_0_83_l rfl).trans ((F_X6_least_0_39_r rfl).trans (ftl_X6_least_28))
theorem ft_X6_least_29 : F_X6_least 29 = J_getfield 6 4 32 := (F_X6_least_0_83_l rfl).trans ((F_X6_least_0_39_r rfl).trans (ftl_X6_least_29))
theorem ft_X6_least_32 : F_X6_least 32 = J_aload 0 33 := (F_X6_least_0_83_l rfl).trans ((F_X6_least_0_39_r rfl).trans (ftl_X6_least_32))
theorem ft_X6_least_33 : F_X6_least 33 = J_getfield 6 3 36 := (F_X6_least_0_83_l rfl).trans ((F_X6_least_0_39_r rfl).trans (ftl_X6_least_33))
theorem ft_X6_least_36 : F_X6_least 36 = J_callV 4 S_X4_take 1 39 := (F_X6_least_0_83_l rfl).trans ((F_X6_least_0_39_r rfl).trans (ftl_X6_least_36))
theorem ft_X6_least_39 : F_X6_least 39 = J_aload 0 40 := (F_X6_least_0_83_l rfl).trans ((F_X6_least_0_39_r rfl).trans (ftl_X6_least_39))
theorem ft_X6_least_40 : F_X6_least 40 = J_getfield 6 4 43 := (F_X6_least_0_83_r rfl).trans ((F_X6_least_40_83_l rfl).trans (ftl_X6_least_40))
theorem ft_X6_least_43 : F_X6_least 43 = J_iload 3 44 := (F_X6_least_0_83_r rfl).trans ((F_X6_least_40_83_l rfl).trans (ftl_X6_least_43))
theorem ft_X6_least_44 : F_X6_least 44 = J_putI 4 2 47 := (F_X6_least_0_83_r rfl).trans ((F_X6_least_40_83_l rfl).trans (ftl_X6_least_44))
theorem ft_X6_least_47 : F_X6_least 47 = J_aload 0 48 := (F_X6_least_0_83_r rfl).trans ((F_X6_least_40_83_l rfl).trans (ftl_X6_least_47))
theorem ft_X6_least_48 : F_X6_least 48 = J_getfield 6 2 51 := (F_X6_least_0_83_r rfl).trans ((F_X6_least_40_83_l rfl).trans (ftl_X6_least_48))
theorem ft_X6_least_51 : F_X6_least 51 = J_aload 0 52 := (F_X6_least_0_83_r rfl).trans ((F_X6_least_40_83_l rfl).trans (ftl_X6_least_51))
theorem ft_X6_least_52 : F_X6_least 52 = J_getfield 6 4 55 := (F_X6_least_0_83_r rfl).trans ((F_X6_least_40_83_l rfl).trans (ftl_X6_least_52))
theorem ft_X6_least_55 : F_X6_least 55 = J_iload 1 56 := (F_X6_least_0_83_r rfl).trans ((F_X6_least_40_83_l rfl).trans (ftl_X6_least_55))
theorem ft_X6_least_56 : F_X6_least 56 = J_iconst 0 57 := (F_X6_least_0_83_r rfl).trans ((F_X6_least_40_83_l rfl).trans (ftl_X6_least_56))
theorem ft_X6_least_57 : F_X6_least 57 = J_iconst 15 59 := (F_X6_least_0_83_r rfl).trans ((F_X6_least_40_83_l rfl).trans (ftl_X6_least_57))
theorem ft_X6_least_59 : F_X6_least 59 = J_iconst (-1) 60 := (F_X6_least_0_83_r rfl).trans ((F_X6_least_40_83_l rfl).trans (ftl_X6_least_59))
theorem ft_X6_least_60 : F_X6_least 60 = J_callV 0 S_X0_pass 5 63 := (F_X6_least_0_83_r rfl).trans ((F_X6_least_40_83_r rfl).trans (ftl_X6_least_60))
theorem ft_X6_least_63 : F_X6_least 63 = J_aload 0 64 := (F_X6_least_0_83_r rfl).trans ((F_X6_least_40_83_r rfl).trans (ftl_X6_least_63))
theorem ft_X6_least_64 : F_X6_least 64 = J_getfield 6 4 67 := (F_X6_least_0_83_r rfl).trans ((F_X6_least_40_83_r rfl).trans (ftl_X6_least_64))
theorem ft_X6_least_67 : F_X6_least 67 = J_callV 4 S_X4_allCharged 0 70 := (F_X6_least_0_83_r rfl).trans ((F_X6_least_40_83_r rfl).trans (ftl_X6_least_67))
theorem ft_X6_least_70 : F_X6_least 70 = J_ifeq 75 73 := (F_X6_least_0_83_r rfl).trans ((F_X6_least_40_83_r rfl).trans (ftl_X6_least_70))
theorem ft_X6_least_73 : F_X6_least 73 = J_iload 3 74 := (F_X6_least_0_83_r rfl).trans ((F_X6_least_40_83_r rfl).trans (ftl_X6_least_73))
theorem ft_X6_least_74 : F_X6_least 74 = J_ireturn 0 0 := (F_X6_least_0_83_r rfl).trans ((F_X6_least_40_83_r rfl).trans (ftl_X6_least_74))
theorem ft_X6_least_75 : F_X6_least 75 = J_iinc 3 1 78 := (F_X6_least_0_83_r rfl).trans ((F_X6_least_40_83_r rfl).trans (ftl_X6_least_75))
theorem ft_X6_least_78 : F_X6_least 78 = J_goto 23 := (F_X6_least_0_83_r rfl).trans ((F_X6_least_40_83_r rfl).trans (ftl_X6_least_78))
theorem ft_X6_least_81 : F_X6_least 81 = J_iconst (-9) 83 := (F_X6_least_0_83_r rfl).trans ((F_X6_least_40_83_r rfl).trans (ftl_X6_least_81))
theorem ft_X6_least_83 : F_X6_least 83 = J_ireturn 0 0 := (F_X6_least_0_83_r rfl).trans ((F_X6_least_40_83_r rfl).trans (ftl_X6_least_83))
theorem lp_X6_least {Q : jQ} {C : Nat → Nat → Int32} {z : Nat → Int64} {nb P E n : Nat} (r : RC C P) (hE : E < 1000) (hn : n ≤ 40) :
    ∀ k j, j + k = E + 1 → ∀ C1, Hv C C1 → (∀ C', Hv C C' → Q (some (.int (lstF C n k j))) (memS 94 C' z)) → Rn Y_X6_least none Q 23 [some (.ref 0), some (.int (nI n)), some (.int (nI E)), some (.int (nI j))] [] (memS 94 C1 z) (nb, 0, 0) := by
  intro k
  induction k with
  | zero =>
    intro j hj C1 v h
    have hc : (nI E < nI j) = True := eq_true (nI_lt (by omega) (by omega))
    refine jrun_first OK_X6_least (C := [23]) 60 ?_
    simp -implicitDefEqProofs only [jr_0, jr_1, jr_2, j_iconst, j_lconst, j_iload0, j_aload0, j_istore0, j_astore0, j_iinc0, j_iload1, j_aload1, j_istore1, j_astore1, j_iinc1, j_iload2, j_aload2, j_istore2, j_astore2, j_iinc2, j_iload3, j_aload3, j_istore3, j_astore3, j_iinc3, j_iload4, j_aload4, j_istore4, j_astore4, j_iinc4, j_iload5, j_aload5, j_istore5, j_astore5, j_iinc5, j_iload6, j_aload6, j_istore6, j_astore6, j_iinc6, j_iload7, j_aload7, j_istore7, j_astore7, j_iinc7, j_iload8, j_aload8, j_istore8, j_astore8, j_iinc8, j_iadd, j_isub, j_imul, j_iand, j_ior, j_ixor, j_ishl, j_ishr, j_iushr, j_idiv, j_irem, j_ineg, j_ladd, j_lmul, j_land, j_lor, j_lcmp, j_lushr, j_lshl, j_i2l, j_l2i, j_dupI, j_dupR, j_popI, j_dup2, j_ifeq, j_iceq, j_ifne, j_icne, j_iflt, j_iclt, j_ifge, j_icge, j_ifgt, j_icgt, j_ifle, j_icle, j_goto, j_tsw, j_sw0, j_sw1, j_ireturn, j_zreturn, j_lreturn, j_return, j_getfield, j_putI, j_putJ, j_putR, j_iaload, j_baload, j_iastore, j_bastore, j_aaload, j_q, j_aastore, j_acopy, j_mmin, j_mmax, j_mabs, j_objinit, j_new, j_newI, j_newQ, j_sld, j_slen, j_callV0, j_callI0, j_callS0, j_callV1, j_callI1, j_callS1, j_callV2, j_callI2, j_callS2, j_callV3, j_callS3, j_callV4, j_callS4, j_callV5, j_callS5, j_pushS, j_pushN, j_sh0, j_sh1, j_sh2, j_sh3, j_sh4, Int32.reduceAdd, Int32.reduceMul, Int32.reduceSub, Int32.reduceLT, Int32.reduceLE, eq_self, i32_10, i32_01, ne_eq, hrow_s, hrow_n, ne10, ne100, ne1000, ne7, ne4, ne14, ne9973, or_true, true_or, or_false, false_or, not_true_eq_false, not_false_eq_true, false_implies, implies_true, and_true, forall_const, true_implies, jargs_n, jargs_r, jargs_i, List.cons_append, List.nil_append, true_and, Nat.reduceEqDiff, reduceIte, ft_X6_least_0, ft_X6_least_1, ft_X6_least_4, ft_X6_least_5, ft_X6_least_7, ft_X6_least_10, ft_X6_least_12, ft_X6_least_13, ft_X6_least_14, ft_X6_least_17, ft_X6_least_20, ft_X6_least_21, ft_X6_least_22, ft_X6_least_23, ft_X6_least_24, ft_X6_least_25, ft_X6_least_28, ft_X6_least_29, ft_X6_least_32, ft_X6_least_33, ft_X6_least_36, ft_X6_least_39, ft_X6_least_40, ft_X6_least_43, ft_X6_least_44, ft_X6_least_47, ft_X6_least_48, ft_X6_least_51, ft_X6_least_52, ft_X6_least_55, ft_X6_least_56, ft_X6_least_57, ft_X6_least_59, ft_X6_least_60, ft_X6_least_63, ft_X6_least_64, ft_X6_least_67, ft_X6_least_70, ft_X6_least_73, ft_X6_least_74, ft_X6_least_75, ft_X6_least_78, ft_X6_least_81, ft_X6_least_83, hc]
    exact h C1 v
  | succ k ih =>
    intro j hj C1 v h
    have hc : (nI E < nI j) = False := eq_false (nI_nlt (by omega) (by omega))
    unfold lstF at h
    refine jrun_first OK_X6_least (C := [23]) 60 ?_
    simp -implicitDefEqProofs only [jr_0, jr_1, jr_2, j_iconst, j_lconst, j_iload0, j_aload0, j_istore0, j_astore0, j_iinc0, j_iload1, j_aload1, j_istore1, j_astore1, j_iinc1, j_iload2, j_aload2, j_istore2, j_astore2, j_iinc2, j_iload3, j_aload3, j_istore3, j_astore3, j_iinc3, j_iload4, j_aload4, j_istore4, j_astore4, j_iinc4, j_iload5, j_aload5, j_istore5, j_astore5, j_iinc5, j_iload6, j_aload6, j_istore6, j_astore6, j_iinc6, j_iload7, j_aload7, j_istore7, j_astore7, j_iinc7, j_iload8, j_aload8, j_istore8, j_astore8, j_iinc8, j_iadd, j_isub, j_imul, j_iand, j_ior, j_ixor, j_ishl, j_ishr, j_iushr, j_idiv, j_irem, j_ineg, j_ladd, j_lmul, j_land, j_lor, j_lcmp, j_lushr, j_lshl, j_i2l, j_l2i, j_dupI, j_dupR, j_popI, j_dup2, j_ifeq, j_iceq, j_ifne, j_icne, j_iflt, j_iclt, j_ifge, j_icge, j_ifgt, j_icgt, j_ifle, j_icle, j_goto, j_tsw, j_sw0, j_sw1, j_ireturn, j_zreturn, j_lreturn, j_return, j_getfield, j_putI, j_putJ, j_putR, j_iaload, j_baload, j_iastore, j_bastore, j_aaload, j_q, j_aastore, j_acopy, j_mmin, j_mmax, j_mabs, j_objinit, j_new, j_newI, j_newQ, j_sld, j_slen, j_callV0, j_callI0, j_callS0, j_callV1, j_callI1, j_callS1, j_callV2, j_callI2, j_callS2, j_callV3, j_callS3, j_callV4, j_callS4, j_callV5, j_callS5, j_pushS, j_pushN, j_sh0, j_sh1, j_sh2, j_sh3, j_sh4, Int32.reduceAdd, Int32.reduceMul, Int32.reduceSub, Int32.reduceLT, Int32.reduceLE, eq_self, i32_10, i32_01, ne_eq, hrow_s, hrow_n, ne10, ne100, ne1000, ne7, ne4, ne14, ne9973, or_true, true_or, or_false, false_or, not_true_eq_false, not_false_eq_true, false_implies, implies_true, and_true, forall_const, true_implies, jargs_n, jargs_r, jargs_i, List.cons_append, List.nil_append, true_and, Nat.reduceEqDiff, reduceIte, ft_X6_least_0, ft_X6_least_1, ft_X6_least_4, ft_X6_least_5, ft_X6_least_7, ft_X6_least_10, ft_X6_least_12, ft_X6_least_13, ft_X6_least_14, ft_X6_least_17, ft_X6_least_20, ft_X6_least_21, ft_X6_least_22, ft_X6_least_23, ft_X6_least_24, ft_X6_least_25, ft_X6_least_28, ft_X6_least_29, ft_X6_least_32, ft_X6_least_33, ft_X6_least_36, ft_X6_least_39, ft_X6_least_40, ft_X6_least_43, ft_X6_least_44, ft_X6_least_47, ft_X6_least_48, ft_X6_least_51, ft_X6_least_52, ft_X6_least_55, ft_X6_least_56, ft_X6_least_57, ft_X6_least_59, ft_X6_least_60, ft_X6_least_63, ft_X6_least_64, ft_X6_least_67, ft_X6_least_70, ft_X6_least_73, ft_X6_least_74, ft_X6_least_75, ft_X6_least_78, ft_X6_least_81, ft_X6_least_83, hc, fl_0_2, fl_0_3, fl_0_4, rc_6, jrcv_st js_12, s_takeH r v, jput_s2 js_12, hrow_hrow]
    refine s_passT (show n < 2 ^ 31 by omega) (v.h12 (r.c9.upd (by decide))) r.hP r.h4 fun C2 v2 e2 => ?_
    rw [hrow_s] at e2
    simp -implicitDefEqProofs only [jr_0, jr_1, jr_2, j_iconst, j_lconst, j_iload0, j_aload0, j_istore0, j_astore0, j_iinc0, j_iload1, j_aload1, j_istore1, j_astore1, j_iinc1, j_iload2, j_aload2, j_istore2, j_astore2, j_iinc2, j_iload3, j_aload3, j_istore3, j_astore3, j_iinc3, j_iload4, j_aload4, j_istore4, j_astore4, j_iinc4, j_iload5, j_aload5, j_istore5, j_astore5, j_iinc5, j_iload6, j_aload6, j_istore6, j_astore6, j_iinc6, j_iload7, j_aload7, j_istore7, j_astore7, j_iinc7, j_iload8, j_aload8, j_istore8, j_astore8, j_iinc8, j_iadd, j_isub, j_imul, j_iand, j_ior, j_ixor, j_ishl, j_ishr, j_iushr, j_idiv, j_irem, j_ineg, j_ladd, j_lmul, j_land, j_lor, j_lcmp, j_lushr, j_lshl, j_i2l, j_l2i, j_dupI, j_dupR, j_popI, j_dup2, j_ifeq, j_iceq, j_ifne, j_icne, j_iflt, j_iclt, j_ifge, j_icge, j_ifgt, j_icgt, j_ifle, j_icle, j_goto, j_tsw, j_sw0, j_sw1, j_ireturn, j_zreturn, j_lreturn, j_return, j_getfield, j_putI, j_putJ, j_putR, j_iaload, j_baload, j_iastore, j_bastore, j_aaload, j_q, j_aastore, j_acopy, j_mmin, j_mmax, j_mabs, j_objinit, j_new, j_newI, j_newQ, j_sld, j_slen, j_callV0, j_callI0, j_callS0, j_callV1, j_callI1, j_callS1, j_callV2, j_callI2, j_callS2, j_callV3, j_callS3, j_callV4, j_callS4, j_callV5, j_callS5, j_pushS, j_pushN, j_sh0, j_sh1, j_sh2, j_sh3, j_sh4, Int32.reduceAdd, Int32.reduceMul, Int32.reduceSub, Int32.reduceLT, Int32.reduceLE, eq_self, i32_10, i32_01, ne_eq, hrow_s, hrow_n, ne10, ne100, ne1000, ne7, ne4, ne14, ne9973, or_true, true_or, or_false, false_or, not_true_eq_false, not_false_eq_true, false_implies, implies_true, and_true, forall_const, true_implies, jargs_n, jargs_r, jargs_i, List.cons_append, List.nil_append, true_and, Nat.reduceEqDiff, reduceIte, ft_X6_least_0, ft_X6_least_1, ft_X6_least_4, ft_X6_least_5, ft_X6_least_7, ft_X6_least_10, ft_X6_least_12, ft_X6_least_13, ft_X6_least_14, ft_X6_least_17, ft_X6_least_20, ft_X6_least_21, ft_X6_least_22, ft_X6_least_23, ft_X6_least_24, ft_X6_least_25, ft_X6_least_28, ft_X6_least_29, ft_X6_least_32, ft_X6_least_33, ft_X6_least_36, ft_X6_least_39, ft_X6_least_40, ft_X6_least_43, ft_X6_least_44, ft_X6_least_47, ft_X6_least_48, ft_X6_least_51, ft_X6_least_52, ft_X6_least_55, ft_X6_least_56, ft_X6_least_57, ft_X6_least_59, ft_X6_least_60, ft_X6_least_63, ft_X6_least_64, ft_X6_least_67, ft_X6_least_70, ft_X6_least_73, ft_X6_least_74, ft_X6_least_75, ft_X6_least_78, ft_X6_least_81, ft_X6_least_83, fl_0_4, jrcv_st js_12, s_chg js_12, e2, zb_0, nI_1]
    by_cases h0 : chgP (goF C 0 15 (-1) n (upd (C 9) 38 (nI j)))
    · simp only [pick_t h0] at h
      simp only [h0, not_true_eq_false, not_false_eq_true, true_implies, false_implies, implies_true, and_true, true_and, forall_const]
      exact h C2 v2
    · simp only [pick_f h0] at h
      simp only [h0, not_true_eq_false, not_false_eq_true, true_implies, false_implies, implies_true, and_true, true_and, forall_const]
      exact ih (j + 1) (by omega) C2 v2 h
theorem ok_X6_least : jMeets Y_X6_least S_X6_least := by
  intro nb vs mem Q h
  obtain ⟨C, z, P, E, n, rfl, rfl, r, hE, hE2, hQ⟩ := h
  refine Ok.run OK_X6_least [23] 60 [none, none] pn6 (Nat.le_of_ble_eq_true rfl) rfl ?_
  simp -implicitDefEqProofs only [jr_0, jr_1, jr_2, j_iconst, j_lconst, j_iload0, j_aload0, j_istore0, j_astore0, j_iinc0, j_iload1, j_aload1, j_istore1, j_astore1, j_iinc1, j_iload2, j_aload2, j_istore2, j_astore2, j_iinc2, j_iload3, j_aload3, j_istore3, j_astore3, j_iinc3, j_iload4, j_aload4, j_istore4, j_astore4, j_iinc4, j_iload5, j_aload5, j_istore5, j_astore5, j_iinc5, j_iload6, j_aload6, j_istore6, j_astore6, j_iinc6, j_iload7, j_aload7, j_istore7, j_astore7, j_iinc7, j_iload8, j_aload8, j_istore8, j_astore8, j_iinc8, j_iadd, j_isub, j_imul, j_iand, j_ior, j_ixor, j_ishl, j_ishr, j_iushr, j_idiv, j_irem, j_ineg, j_ladd, j_lmul, j_land, j_lor, j_lcmp, j_lushr, j_lshl, j_i2l, j_l2i, j_dupI, j_dupR, j_popI, j_dup2, j_ifeq, j_iceq, j_ifne, j_icne, j_iflt, j_iclt, j_ifge, j_icge, j_ifgt, j_icgt, j_ifle, j_icle, j_goto, j_tsw, j_sw0, j_sw1, j_ireturn, j_zreturn, j_lreturn, j_return, j_getfield, j_putI, j_putJ, j_putR, j_iaload, j_baload, j_iastore, j_bastore, j_aaload, j_q, j_aastore, j_acopy, j_mmin, j_mmax, j_mabs, j_objinit, j_new, j_newI, j_newQ, j_sld, j_slen, j_callV0, j_callI0, j_callS0, j_callV1, j_callI1, j_callS1, j_callV2, j_callI2, j_callS2, j_callV3, j_callS3, j_callV4, j_callS4, j_callV5, j_callS5, j_pushS, j_pushN, j_sh0, j_sh1, j_sh2, j_sh3, j_sh4, Int32.reduceAdd, Int32.reduceMul, Int32.reduceSub, Int32.reduceLT, Int32.reduceLE, eq_self, i32_10, i32_01, ne_eq, hrow_s, hrow_n, ne10, ne100, ne1000, ne7, ne4, ne14, ne9973, or_true, true_or, or_false, false_or, not_true_eq_false, not_false_eq_true, false_implies, implies_true, and_true, forall_const, true_implies, jargs_n, jargs_r, jargs_i, List.cons_append, List.nil_append, true_and, Nat.reduceEqDiff, reduceIte, ft_X6_least_0, ft_X6_least_1, ft_X6_least_4, ft_X6_least_5, ft_X6_least_7, ft_X6_least_10, ft_X6_least_12, ft_X6_least_13, ft_X6_least_14, ft_X6_least_17, ft_X6_least_20, ft_X6_least_21, ft_X6_least_22, ft_X6_least_23, ft_X6_least_24, ft_X6_least_25, ft_X6_least_28, ft_X6_least_29, ft_X6_least_32, ft_X6_least_33, ft_X6_least_36, ft_X6_least_39, ft_X6_least_40, ft_X6_least_43, ft_X6_least_44, ft_X6_least_47, ft_X6_least_48, ft_X6_least_51, ft_X6_least_52, ft_X6_least_55, ft_X6_least_56, ft_X6_least_57, ft_X6_least_59, ft_X6_least_60, ft_X6_least_63, ft_X6_least_64, ft_X6_least_67, ft_X6_least_70, ft_X6_least_73, ft_X6_least_74, ft_X6_least_75, ft_X6_least_78, ft_X6_least_81, ft_X6_least_83, fl_0_1, rc_3]
  unfold leastA at hQ
  by_cases h2 : 0 ≤ n ∧ n ≤ 40
  · simp only [pick_t h2] at hQ
    obtain ⟨ha, hb⟩ := h2
    simp only [Int32.not_lt.mpr ha, hb, not_true_eq_false, not_false_eq_true, true_implies, false_implies, implies_true, and_true, true_and, forall_const]
    obtain ⟨m, -, hm, rfl⟩ := i32_btw (a := 0) (b := 40) (by decide) (by decide) ha hb
    rw [nI_clamp (show m < 2 ^ 31 by omega)] at hQ
    refine s_X3_allAmps r.hP r.h4 ?_
    simp -implicitDefEqProofs only [jr_0, jr_1, jr_2, j_iconst, j_lconst, j_iload0, j_aload0, j_istore0, j_astore0, j_iinc0, j_iload1, j_aload1, j_istore1, j_astore1, j_iinc1, j_iload2, j_aload2, j_istore2, j_astore2, j_iinc2, j_iload3, j_aload3, j_istore3, j_astore3, j_iinc3, j_iload4, j_aload4, j_istore4, j_astore4, j_iinc4, j_iload5, j_aload5, j_istore5, j_astore5, j_iinc5, j_iload6, j_aload6, j_istore6, j_astore6, j_iinc6, j_iload7, j_aload7, j_istore7, j_astore7, j_iinc7, j_iload8, j_aload8, j_istore8, j_astore8, j_iinc8, j_iadd, j_isub, j_imul, j_iand, j_ior, j_ixor, j_ishl, j_ishr, j_iushr, j_idiv, j_irem, j_ineg, j_ladd, j_lmul, j_land, j_lor, j_lcmp, j_lushr, j_lshl, j_i2l, j_l2i, j_dupI, j_dupR, j_popI, j_dup2, j_ifeq, j_iceq, j_ifne, j_icne, j_iflt, j_iclt, j_ifge, j_icge, j_ifgt, j_icgt, j_ifle, j_icle, j_goto, j_tsw, j_sw0, j_sw1, j_ireturn, j_zreturn, j_lreturn, j_return, j_getfield, j_putI, j_putJ, j_putR, j_iaload, j_baload, j_iastore, j_bastore, j_aaload, j_q, j_aastore, j_acopy, j_mmin, j_mmax, j_mabs, j_objinit, j_new, j_newI, j_newQ, j_sld, j_slen, j_callV0, j_callI0, j_callS0, j_callV1, j_callI1, j_callS1, j_callV2, j_callI2, j_callS2, j_callV3, j_callS3, j_callV4, j_callS4, j_callV5, j_callS5, j_pushS, j_pushN, j_sh0, j_sh1, j_sh2, j_sh3, j_sh4, Int32.reduceAdd, Int32.reduceMul, Int32.reduceSub, Int32.reduceLT, Int32.reduceLE, eq_self, i32_10, i32_01, ne_eq, hrow_s, hrow_n, ne10, ne100, ne1000, ne7, ne4, ne14, ne9973, or_true, true_or, or_false, false_or, not_true_eq_false, not_false_eq_true, false_implies, implies_true, and_true, forall_const, true_implies, jargs_n, jargs_r, jargs_i, List.cons_append, List.nil_append, true_and, Nat.reduceEqDiff, reduceIte, ft_X6_least_0, ft_X6_least_1, ft_X6_least_4, ft_X6_least_5, ft_X6_least_7, ft_X6_least_10, ft_X6_least_12, ft_X6_least_13, ft_X6_least_14, ft_X6_least_17, ft_X6_least_20, ft_X6_least_21, ft_X6_least_22, ft_X6_least_23, ft_X6_least_24, ft_X6_least_25, ft_X6_least_28, ft_X6_least_29, ft_X6_least_32, ft_X6_least_33, ft_X6_least_36, ft_X6_least_39, ft_X6_least_40, ft_X6_least_43, ft_X6_least_44, ft_X6_least_47, ft_X6_least_48, ft_X6_least_51, ft_X6_least_52, ft_X6_least_55, ft_X6_least_56, ft_X6_least_57, ft_X6_least_59, ft_X6_least_60, ft_X6_least_63, ft_X6_least_64, ft_X6_least_67, ft_X6_least_70, ft_X6_least_73, ft_X6_least_74, ft_X6_least_75, ft_X6_least_78, ft_X6_least_81, ft_X6_least_83, hE]
    exact lp_X6_least r hE2 hm (E + 1) 0 (by omega) C r.rf hQ
  · simp only [pick_f h2] at hQ
    have hq := hQ C r.rf
    by_cases a1 : n < 0
    · simp only [a1, not_true_eq_false, not_false_eq_true, true_implies, false_implies, implies_true, and_true, true_and, forall_const]; exact hq
    · by_cases a2 : ¬ n ≤ 40
      · simp only [a1, a2, not_true_eq_false, not_false_eq_true, true_implies, false_implies, implies_true, and_true, true_and, forall_const]; exact hq
      · exact absurd ⟨Int32.not_lt.mp a1, Classical.not_not.mp a2⟩ h2
theorem s_X6_least {nb P E : Nat} {C : Nat → Nat → Int32} {z : Nat → Int64} {n : Int32} {Q : jQ} (r : RC C P) (hE : ampS (C 4) P = nI E) (hE2 : E < 1000) (hQ : ∀ C', Hv C C' → Q (some (.int (leastA C n E))) (memS 94 C' z)) : S_X6_least nb [.ref 0, .int n] (memS 94 C z) Q := ⟨C, z, P, E, n, rfl, rfl, r, hE, hE2, hQ⟩
